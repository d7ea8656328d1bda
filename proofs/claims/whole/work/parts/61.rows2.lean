/-! rows with a written place; more rows of numbers -/
section Rows
variable {p : Program} {l : Launch} {e : Env} {R : Room} {s : State} {m : MethodId} {args : Array Value} {below : List Frame} {meth : Method} {c : Code} {nL : Nat} {D : va_G} {cA : Nat → ClassId} {b0 : Nat → Prop} {cells slots : Nat} {Q : State → Prop} {lv : Lv} {st : List AV} {ad : Ads} {cn : Nat → Nat} {M : Mem} {cc : ByteArray} {own : String} {tab : List ExceptionTableEntry} {pc pc' : Nat}
theorem w_ialdN {j : Nat} (C : Cx l p s m args meth c cc own nL D cA b0 tab) {k i n : Nat} {z : Int} (hd : DI cc pc .iaload 1 pc') (hin : inD cn k i) (hk : IA k n) (hz : z = (j : Int)) (hj : j < n) (kk : Wm p l e R s m args below meth c nL D cA b0 cells slots Q pc' lv (aI (M.1 k i j) :: st) ad cn M) : Wm p l e R s m args below meth c nL D cA b0 cells slots Q pc lv (aI z :: aO k i :: st) ad cn M := by
  subst hz
  exact w_iald C hd hin hk (by omega) (by rw [Int.toNat_natCast]; exact kk)
theorem w_zaldN {j : Nat} (C : Cx l p s m args meth c cc own nL D cA b0 tab) {k i n : Nat} {z : Int} (hd : DI cc pc .baload 1 pc') (hin : inD cn k i) (hk : ZA k n) (hz : z = (j : Int)) (hj : j < n) (kk : Wm p l e R s m args below meth c nL D cA b0 cells slots Q pc' lv (aI (M.1 k i j) :: st) ad cn M) : Wm p l e R s m args below meth c nL D cA b0 cells slots Q pc lv (aI z :: aO k i :: st) ad cn M := by
  subst hz
  exact w_zald C hd hin hk (by omega) (by rw [Int.toNat_natCast]; exact kk)
theorem w_caldN {j : Nat} (C : Cx l p s m args meth c cc own nL D cA b0 tab) {k i n : Nat} {z : Int} (hd : DI cc pc .caload 1 pc') (hin : inD cn k i) (hk : CA k n) (hz : z = (j : Int)) (hj : j < n) (kk : Wm p l e R s m args below meth c nL D cA b0 cells slots Q pc' lv (aI (M.1 k i j) :: st) ad cn M) : Wm p l e R s m args below meth c nL D cA b0 cells slots Q pc lv (aI z :: aO k i :: st) ad cn M := by
  subst hz
  exact w_cald C hd hin hk (by omega) (by rw [Int.toNat_natCast]; exact kk)
theorem w_iastN {j : Nat} (C : Cx l p s m args meth c cc own nL D cA b0 tab) {k i n : Nat} {z v : Int} (hd : DI cc pc .iastore 1 pc') (hin : inD cn k i) (hk : IA k n) (hz : z = (j : Int)) (hj : j < n) (kk : Wm p l e R s m args below meth c nL D cA b0 cells slots Q pc' lv st ad cn (uI M k i j v)) : Wm p l e R s m args below meth c nL D cA b0 cells slots Q pc lv (aI v :: aI z :: aO k i :: st) ad cn M := by
  subst hz
  exact w_iast C hd hin hk (by omega) (by rw [Int.toNat_natCast]; exact kk)
theorem w_zastN {j : Nat} (C : Cx l p s m args meth c cc own nL D cA b0 tab) {k i n : Nat} {z v : Int} (hd : DI cc pc .bastore 1 pc') (hin : inD cn k i) (hk : ZA k n) (hz : z = (j : Int)) (hj : j < n) (hv : v = 0 ∨ v = 1) (kk : Wm p l e R s m args below meth c nL D cA b0 cells slots Q pc' lv st ad cn (uI M k i j v)) : Wm p l e R s m args below meth c nL D cA b0 cells slots Q pc lv (aI v :: aI z :: aO k i :: st) ad cn M := by
  subst hz
  exact w_zast C hd hin hk (by omega) hv (by rw [Int.toNat_natCast]; exact kk)
theorem w_castN {j : Nat} (C : Cx l p s m args meth c cc own nL D cA b0 tab) {k i n : Nat} {z v : Int} (hd : DI cc pc .castore 1 pc') (hin : inD cn k i) (hk : CA k n) (hz : z = (j : Int)) (hj : j < n) (hv : 0 ≤ v ∧ v ≤ 65535) (kk : Wm p l e R s m args below meth c nL D cA b0 cells slots Q pc' lv st ad cn (uI M k i j v)) : Wm p l e R s m args below meth c nL D cA b0 cells slots Q pc lv (aI v :: aI z :: aO k i :: st) ad cn M := by
  subst hz
  exact w_cast C hd hin hk (by omega) hv (by rw [Int.toNat_natCast]; exact kk)
theorem i32_rg (x : Int) : -2147483648 ≤ (Int32.ofInt x).toInt ∧ (Int32.ofInt x).toInt ≤ 2147483647 := by
  have h1 := Int32.le_toInt (Int32.ofInt x)
  have h2 := Int32.toInt_lt (Int32.ofInt x)
  omega
theorem e32_any {x : Int} : Int32.ofInt (Int32.ofInt x).toInt = Int32.ofInt x := Int32.toInt_inj.mp (e32 (i32_rg x))
theorem e64_any (x : Int) : (Int32.ofInt x).toInt64 = Int64.ofInt (Int32.ofInt x).toInt := by
  have h := i32_rg x
  refine Int64.toInt_inj.mp ?_
  rw [Int32.toInt_toInt64, e64 (by omega)]
/-- to a long, of any number -/
theorem w_i2lA (C : Cx l p s m args meth c cc own nL D cA b0 tab) {x : Int} (hd : DI cc pc .i2l 1 pc') (kk : Wm p l e R s m args below meth c nL D cA b0 cells slots Q pc' lv (aL (Int32.ofInt x).toInt :: st) ad cn M) : Wm p l e R s m args below meth c nL D cA b0 cells slots Q pc lv (aI x :: st) ad cn M := by
  intro H locs ls hw hS hl
  have k := kk H locs ls hw hS hl
  rw [← hd.2] at k
  exact lv_i2l C.1 C.2.1 hd.1 (e64_any x) k
/-- a number may be taken by its value as the machine holds it -/
theorem Wm.topA {x y : Int} (h : Int32.ofInt x = Int32.ofInt y) (kk : Wm p l e R s m args below meth c nL D cA b0 cells slots Q pc lv (aI y :: st) ad cn M) : Wm p l e R s m args below meth c nL D cA b0 cells slots Q pc lv (aI x :: st) ad cn M := by
  intro H locs ls hw hS hl
  have k := kk H locs ls hw hS hl
  have e9 : (aI y :: st).map (tv ad) = (aI x :: st).map (tv ad) := by
    show Value.int (Int32.ofInt y) :: _ = Value.int (Int32.ofInt x) :: _
    rw [h]
  rw [← e9]
  exact k
/-- the remainder of any number by one above 0 -/
theorem e32_rem {x y : Int} (hx : -2147483647 ≤ x ∧ x ≤ 2147483647) (hy : 0 < y ∧ y ≤ 2147483647) : Int32.ofInt x - Int32.ofInt x / Int32.ofInt y * Int32.ofInt y = Int32.ofInt (x.tmod y) := by
  have h := Int32.ofInt_tdiv (a := x) (b := y) (by show -2147483648 ≤ x; omega) (by show x ≤ 2147483647; omega) (by show -2147483648 ≤ y; omega) (by show y ≤ 2147483647; omega)
  rw [← h, ← Int32.ofInt_mul, ← Int32.ofInt_sub, Int.tmod_def, Int.mul_comm]
theorem w_iremA (C : Cx l p s m args meth c cc own nL D cA b0 tab) {x y : Int} (hd : DI cc pc .irem 1 pc') (hx : -2147483647 ≤ x ∧ x ≤ 2147483647) (hy : 0 < y ∧ y ≤ 2147483647) (kk : Wm p l e R s m args below meth c nL D cA b0 cells slots Q pc' lv (aI (x.tmod y) :: st) ad cn M) : Wm p l e R s m args below meth c nL D cA b0 cells slots Q pc lv (aI y :: aI x :: st) ad cn M := by
  intro H locs ls hw hS hl
  have k := kk H locs ls hw hS hl
  rw [← hd.2] at k
  have hne : ¬ Int32.ofInt y = 0 := fun h => by
    rw [z32, e32_eq (by omega) (by omega)] at h
    omega
  exact lv_irem C.1 C.2.1 hd.1 hne (by rw [e32_rem hx hy]; exact k)
/-- two numbers that are the same do not differ -/
theorem w_icmpSame (C : Cx l p s m args meth c cc own nL D cA b0 tab) {x off : Int} {tgt : Nat} (hd : DJ cc pc (.if_icmp .ne off) off tgt pc') (kf : Wm p l e R s m args below meth c nL D cA b0 cells slots Q pc' lv st ad cn M) : Wm p l e R s m args below meth c nL D cA b0 cells slots Q pc lv (aI x :: aI x :: st) ad cn M := fun H locs ls hw hS hl =>
  lv_icmp_ne C.1 C.2.1 hd.1 hd.2.1 (fun h => absurd rfl h) (fun h => by have k := kf H locs ls hw hS hl; rw [← hd.2.2] at k; exact k)
theorem w_lsub (C : Cx l p s m args meth c cc own nL D cA b0 tab) {x y : Int} (hd : DI cc pc .lsub 1 pc') (kk : Wm p l e R s m args below meth c nL D cA b0 cells slots Q pc' lv (aL (x - y) :: st) ad cn M) : Wm p l e R s m args below meth c nL D cA b0 cells slots Q pc lv (aL y :: aL x :: st) ad cn M := by
  intro H locs ls hw hS hl
  have k := kk H locs ls hw hS hl
  rw [← hd.2] at k
  exact lv_lsub C.1 C.2.1 hd.1 (by rw [← Int64.ofInt_sub]; exact k)
theorem w_if_eq_y (C : Cx l p s m args meth c cc own nL D cA b0 tab) {x off : Int} {tgt : Nat} (hd : DJ cc pc (.ifCond .eq off) off tgt pc') (hx : -2147483648 ≤ x ∧ x ≤ 2147483647) (h : x = 0) (kk : Wm p l e R s m args below meth c nL D cA b0 cells slots Q tgt lv st ad cn M) : Wm p l e R s m args below meth c nL D cA b0 cells slots Q pc lv (aI x :: st) ad cn M := w_if_eq C hd hx (fun _ => kk) (fun q => absurd h q)
theorem w_if_eq_n (C : Cx l p s m args meth c cc own nL D cA b0 tab) {x off : Int} {tgt : Nat} (hd : DJ cc pc (.ifCond .eq off) off tgt pc') (hx : -2147483648 ≤ x ∧ x ≤ 2147483647) (h : ¬ (x = 0)) (kk : Wm p l e R s m args below meth c nL D cA b0 cells slots Q pc' lv st ad cn M) : Wm p l e R s m args below meth c nL D cA b0 cells slots Q pc lv (aI x :: st) ad cn M := w_if_eq C hd hx (fun q => absurd q h) (fun _ => kk)
theorem w_if_ne_y (C : Cx l p s m args meth c cc own nL D cA b0 tab) {x off : Int} {tgt : Nat} (hd : DJ cc pc (.ifCond .ne off) off tgt pc') (hx : -2147483648 ≤ x ∧ x ≤ 2147483647) (h : x ≠ 0) (kk : Wm p l e R s m args below meth c nL D cA b0 cells slots Q tgt lv st ad cn M) : Wm p l e R s m args below meth c nL D cA b0 cells slots Q pc lv (aI x :: st) ad cn M := w_if_ne C hd hx (fun _ => kk) (fun q => absurd h q)
theorem w_if_ne_n (C : Cx l p s m args meth c cc own nL D cA b0 tab) {x off : Int} {tgt : Nat} (hd : DJ cc pc (.ifCond .ne off) off tgt pc') (hx : -2147483648 ≤ x ∧ x ≤ 2147483647) (h : ¬ (x ≠ 0)) (kk : Wm p l e R s m args below meth c nL D cA b0 cells slots Q pc' lv st ad cn M) : Wm p l e R s m args below meth c nL D cA b0 cells slots Q pc lv (aI x :: st) ad cn M := w_if_ne C hd hx (fun q => absurd q h) (fun _ => kk)
theorem w_if_lt_y (C : Cx l p s m args meth c cc own nL D cA b0 tab) {x off : Int} {tgt : Nat} (hd : DJ cc pc (.ifCond .lt off) off tgt pc') (hx : -2147483648 ≤ x ∧ x ≤ 2147483647) (h : x < 0) (kk : Wm p l e R s m args below meth c nL D cA b0 cells slots Q tgt lv st ad cn M) : Wm p l e R s m args below meth c nL D cA b0 cells slots Q pc lv (aI x :: st) ad cn M := w_if_lt C hd hx (fun _ => kk) (fun q => absurd h q)
theorem w_if_lt_n (C : Cx l p s m args meth c cc own nL D cA b0 tab) {x off : Int} {tgt : Nat} (hd : DJ cc pc (.ifCond .lt off) off tgt pc') (hx : -2147483648 ≤ x ∧ x ≤ 2147483647) (h : ¬ (x < 0)) (kk : Wm p l e R s m args below meth c nL D cA b0 cells slots Q pc' lv st ad cn M) : Wm p l e R s m args below meth c nL D cA b0 cells slots Q pc lv (aI x :: st) ad cn M := w_if_lt C hd hx (fun q => absurd q h) (fun _ => kk)
theorem w_if_ge_y (C : Cx l p s m args meth c cc own nL D cA b0 tab) {x off : Int} {tgt : Nat} (hd : DJ cc pc (.ifCond .ge off) off tgt pc') (hx : -2147483648 ≤ x ∧ x ≤ 2147483647) (h : 0 ≤ x) (kk : Wm p l e R s m args below meth c nL D cA b0 cells slots Q tgt lv st ad cn M) : Wm p l e R s m args below meth c nL D cA b0 cells slots Q pc lv (aI x :: st) ad cn M := w_if_ge C hd hx (fun _ => kk) (fun q => absurd h q)
theorem w_if_ge_n (C : Cx l p s m args meth c cc own nL D cA b0 tab) {x off : Int} {tgt : Nat} (hd : DJ cc pc (.ifCond .ge off) off tgt pc') (hx : -2147483648 ≤ x ∧ x ≤ 2147483647) (h : ¬ (0 ≤ x)) (kk : Wm p l e R s m args below meth c nL D cA b0 cells slots Q pc' lv st ad cn M) : Wm p l e R s m args below meth c nL D cA b0 cells slots Q pc lv (aI x :: st) ad cn M := w_if_ge C hd hx (fun q => absurd q h) (fun _ => kk)
theorem w_if_gt_y (C : Cx l p s m args meth c cc own nL D cA b0 tab) {x off : Int} {tgt : Nat} (hd : DJ cc pc (.ifCond .gt off) off tgt pc') (hx : -2147483648 ≤ x ∧ x ≤ 2147483647) (h : 0 < x) (kk : Wm p l e R s m args below meth c nL D cA b0 cells slots Q tgt lv st ad cn M) : Wm p l e R s m args below meth c nL D cA b0 cells slots Q pc lv (aI x :: st) ad cn M := w_if_gt C hd hx (fun _ => kk) (fun q => absurd h q)
theorem w_if_gt_n (C : Cx l p s m args meth c cc own nL D cA b0 tab) {x off : Int} {tgt : Nat} (hd : DJ cc pc (.ifCond .gt off) off tgt pc') (hx : -2147483648 ≤ x ∧ x ≤ 2147483647) (h : ¬ (0 < x)) (kk : Wm p l e R s m args below meth c nL D cA b0 cells slots Q pc' lv st ad cn M) : Wm p l e R s m args below meth c nL D cA b0 cells slots Q pc lv (aI x :: st) ad cn M := w_if_gt C hd hx (fun q => absurd q h) (fun _ => kk)
theorem w_if_le_y (C : Cx l p s m args meth c cc own nL D cA b0 tab) {x off : Int} {tgt : Nat} (hd : DJ cc pc (.ifCond .le off) off tgt pc') (hx : -2147483648 ≤ x ∧ x ≤ 2147483647) (h : x ≤ 0) (kk : Wm p l e R s m args below meth c nL D cA b0 cells slots Q tgt lv st ad cn M) : Wm p l e R s m args below meth c nL D cA b0 cells slots Q pc lv (aI x :: st) ad cn M := w_if_le C hd hx (fun _ => kk) (fun q => absurd h q)
theorem w_if_le_n (C : Cx l p s m args meth c cc own nL D cA b0 tab) {x off : Int} {tgt : Nat} (hd : DJ cc pc (.ifCond .le off) off tgt pc') (hx : -2147483648 ≤ x ∧ x ≤ 2147483647) (h : ¬ (x ≤ 0)) (kk : Wm p l e R s m args below meth c nL D cA b0 cells slots Q pc' lv st ad cn M) : Wm p l e R s m args below meth c nL D cA b0 cells slots Q pc lv (aI x :: st) ad cn M := w_if_le C hd hx (fun q => absurd q h) (fun _ => kk)
theorem w_icmp_eq_y (C : Cx l p s m args meth c cc own nL D cA b0 tab) {x y off : Int} {tgt : Nat} (hd : DJ cc pc (.if_icmp .eq off) off tgt pc') (hx : -2147483648 ≤ x ∧ x ≤ 2147483647) (hy : -2147483648 ≤ y ∧ y ≤ 2147483647) (h : x = y) (kk : Wm p l e R s m args below meth c nL D cA b0 cells slots Q tgt lv st ad cn M) : Wm p l e R s m args below meth c nL D cA b0 cells slots Q pc lv (aI y :: aI x :: st) ad cn M := w_icmp_eq C hd hx hy (fun _ => kk) (fun q => absurd h q)
theorem w_icmp_eq_n (C : Cx l p s m args meth c cc own nL D cA b0 tab) {x y off : Int} {tgt : Nat} (hd : DJ cc pc (.if_icmp .eq off) off tgt pc') (hx : -2147483648 ≤ x ∧ x ≤ 2147483647) (hy : -2147483648 ≤ y ∧ y ≤ 2147483647) (h : ¬ (x = y)) (kk : Wm p l e R s m args below meth c nL D cA b0 cells slots Q pc' lv st ad cn M) : Wm p l e R s m args below meth c nL D cA b0 cells slots Q pc lv (aI y :: aI x :: st) ad cn M := w_icmp_eq C hd hx hy (fun q => absurd q h) (fun _ => kk)
theorem w_icmp_ne_y (C : Cx l p s m args meth c cc own nL D cA b0 tab) {x y off : Int} {tgt : Nat} (hd : DJ cc pc (.if_icmp .ne off) off tgt pc') (hx : -2147483648 ≤ x ∧ x ≤ 2147483647) (hy : -2147483648 ≤ y ∧ y ≤ 2147483647) (h : x ≠ y) (kk : Wm p l e R s m args below meth c nL D cA b0 cells slots Q tgt lv st ad cn M) : Wm p l e R s m args below meth c nL D cA b0 cells slots Q pc lv (aI y :: aI x :: st) ad cn M := w_icmp_ne C hd hx hy (fun _ => kk) (fun q => absurd h q)
theorem w_icmp_ne_n (C : Cx l p s m args meth c cc own nL D cA b0 tab) {x y off : Int} {tgt : Nat} (hd : DJ cc pc (.if_icmp .ne off) off tgt pc') (hx : -2147483648 ≤ x ∧ x ≤ 2147483647) (hy : -2147483648 ≤ y ∧ y ≤ 2147483647) (h : ¬ (x ≠ y)) (kk : Wm p l e R s m args below meth c nL D cA b0 cells slots Q pc' lv st ad cn M) : Wm p l e R s m args below meth c nL D cA b0 cells slots Q pc lv (aI y :: aI x :: st) ad cn M := w_icmp_ne C hd hx hy (fun q => absurd q h) (fun _ => kk)
theorem w_icmp_lt_y (C : Cx l p s m args meth c cc own nL D cA b0 tab) {x y off : Int} {tgt : Nat} (hd : DJ cc pc (.if_icmp .lt off) off tgt pc') (hx : -2147483648 ≤ x ∧ x ≤ 2147483647) (hy : -2147483648 ≤ y ∧ y ≤ 2147483647) (h : x < y) (kk : Wm p l e R s m args below meth c nL D cA b0 cells slots Q tgt lv st ad cn M) : Wm p l e R s m args below meth c nL D cA b0 cells slots Q pc lv (aI y :: aI x :: st) ad cn M := w_icmp_lt C hd hx hy (fun _ => kk) (fun q => absurd h q)
theorem w_icmp_lt_n (C : Cx l p s m args meth c cc own nL D cA b0 tab) {x y off : Int} {tgt : Nat} (hd : DJ cc pc (.if_icmp .lt off) off tgt pc') (hx : -2147483648 ≤ x ∧ x ≤ 2147483647) (hy : -2147483648 ≤ y ∧ y ≤ 2147483647) (h : ¬ (x < y)) (kk : Wm p l e R s m args below meth c nL D cA b0 cells slots Q pc' lv st ad cn M) : Wm p l e R s m args below meth c nL D cA b0 cells slots Q pc lv (aI y :: aI x :: st) ad cn M := w_icmp_lt C hd hx hy (fun q => absurd q h) (fun _ => kk)
theorem w_icmp_ge_y (C : Cx l p s m args meth c cc own nL D cA b0 tab) {x y off : Int} {tgt : Nat} (hd : DJ cc pc (.if_icmp .ge off) off tgt pc') (hx : -2147483648 ≤ x ∧ x ≤ 2147483647) (hy : -2147483648 ≤ y ∧ y ≤ 2147483647) (h : y ≤ x) (kk : Wm p l e R s m args below meth c nL D cA b0 cells slots Q tgt lv st ad cn M) : Wm p l e R s m args below meth c nL D cA b0 cells slots Q pc lv (aI y :: aI x :: st) ad cn M := w_icmp_ge C hd hx hy (fun _ => kk) (fun q => absurd h q)
theorem w_icmp_ge_n (C : Cx l p s m args meth c cc own nL D cA b0 tab) {x y off : Int} {tgt : Nat} (hd : DJ cc pc (.if_icmp .ge off) off tgt pc') (hx : -2147483648 ≤ x ∧ x ≤ 2147483647) (hy : -2147483648 ≤ y ∧ y ≤ 2147483647) (h : ¬ (y ≤ x)) (kk : Wm p l e R s m args below meth c nL D cA b0 cells slots Q pc' lv st ad cn M) : Wm p l e R s m args below meth c nL D cA b0 cells slots Q pc lv (aI y :: aI x :: st) ad cn M := w_icmp_ge C hd hx hy (fun q => absurd q h) (fun _ => kk)
theorem w_icmp_gt_y (C : Cx l p s m args meth c cc own nL D cA b0 tab) {x y off : Int} {tgt : Nat} (hd : DJ cc pc (.if_icmp .gt off) off tgt pc') (hx : -2147483648 ≤ x ∧ x ≤ 2147483647) (hy : -2147483648 ≤ y ∧ y ≤ 2147483647) (h : y < x) (kk : Wm p l e R s m args below meth c nL D cA b0 cells slots Q tgt lv st ad cn M) : Wm p l e R s m args below meth c nL D cA b0 cells slots Q pc lv (aI y :: aI x :: st) ad cn M := w_icmp_gt C hd hx hy (fun _ => kk) (fun q => absurd h q)
theorem w_icmp_gt_n (C : Cx l p s m args meth c cc own nL D cA b0 tab) {x y off : Int} {tgt : Nat} (hd : DJ cc pc (.if_icmp .gt off) off tgt pc') (hx : -2147483648 ≤ x ∧ x ≤ 2147483647) (hy : -2147483648 ≤ y ∧ y ≤ 2147483647) (h : ¬ (y < x)) (kk : Wm p l e R s m args below meth c nL D cA b0 cells slots Q pc' lv st ad cn M) : Wm p l e R s m args below meth c nL D cA b0 cells slots Q pc lv (aI y :: aI x :: st) ad cn M := w_icmp_gt C hd hx hy (fun q => absurd q h) (fun _ => kk)
theorem w_icmp_le_y (C : Cx l p s m args meth c cc own nL D cA b0 tab) {x y off : Int} {tgt : Nat} (hd : DJ cc pc (.if_icmp .le off) off tgt pc') (hx : -2147483648 ≤ x ∧ x ≤ 2147483647) (hy : -2147483648 ≤ y ∧ y ≤ 2147483647) (h : x ≤ y) (kk : Wm p l e R s m args below meth c nL D cA b0 cells slots Q tgt lv st ad cn M) : Wm p l e R s m args below meth c nL D cA b0 cells slots Q pc lv (aI y :: aI x :: st) ad cn M := w_icmp_le C hd hx hy (fun _ => kk) (fun q => absurd h q)
theorem w_icmp_le_n (C : Cx l p s m args meth c cc own nL D cA b0 tab) {x y off : Int} {tgt : Nat} (hd : DJ cc pc (.if_icmp .le off) off tgt pc') (hx : -2147483648 ≤ x ∧ x ≤ 2147483647) (hy : -2147483648 ≤ y ∧ y ≤ 2147483647) (h : ¬ (x ≤ y)) (kk : Wm p l e R s m args below meth c nL D cA b0 cells slots Q pc' lv st ad cn M) : Wm p l e R s m args below meth c nL D cA b0 cells slots Q pc lv (aI y :: aI x :: st) ad cn M := w_icmp_le C hd hx hy (fun q => absurd q h) (fun _ => kk)
end Rows
