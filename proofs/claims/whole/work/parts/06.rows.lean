/-! more numbers -/
theorem fa_and (a b : Nat) : nI a &&& nI b = nI (a &&& b) := by
  apply Int32.toBitVec_inj.1
  show BitVec.ofNat 32 a &&& BitVec.ofNat 32 b = BitVec.ofNat 32 (a &&& b)
  apply BitVec.eq_of_getLsbD_eq
  intro i hi
  simp [hi]
theorem fa_or (a b : Nat) : nI a ||| nI b = nI (a ||| b) := by
  apply Int32.toBitVec_inj.1
  show BitVec.ofNat 32 a ||| BitVec.ofNat 32 b = BitVec.ofNat 32 (a ||| b)
  apply BitVec.eq_of_getLsbD_eq
  intro i hi
  simp [hi]
/-- a remainder by a power of two, as a mask -/
theorem e32_div {x y : Int} (hx : 0 ≤ x ∧ x ≤ 2147483647) (hy : 0 < y ∧ y ≤ 2147483647) : Int32.ofInt x / Int32.ofInt y = Int32.ofInt (x / y) := by
  have h := Int32.ofInt_tdiv (a := x) (b := y) (by show -2147483648 ≤ x; omega) (by show x ≤ 2147483647; omega) (by show -2147483648 ≤ y; omega) (by show y ≤ 2147483647; omega)
  rw [← h, Int.tdiv_eq_ediv_of_nonneg hx.1]
theorem e32_mod {x y : Int} : x - x / y * y = x % y := by
  have h := Int.emod_def x y
  rw [h, Int.mul_comm]
theorem e32_n (n : Nat) : Int32.ofInt (n : Int) = nI n := Int32.ofInt_eq_ofNat
theorem e32_and {a b : Nat} (ha : a < 2147483648) (hb : b < 2147483648) : Int32.ofInt (a : Int) &&& Int32.ofInt (b : Int) = Int32.ofInt ((a &&& b : Nat) : Int) := by
  rw [e32_n, e32_n, e32_n]
  exact fa_and a b
theorem e32_or {a b : Nat} (ha : a < 2147483648) (hb : b < 2147483648) : Int32.ofInt (a : Int) ||| Int32.ofInt (b : Int) = Int32.ofInt ((a ||| b : Nat) : Int) := by
  rw [e32_n, e32_n, e32_n]
  exact fa_or a b
theorem e32_s : ∀ n, n < 32 → ((nI n &&& 31).toBitVec.smod 32).toNat = n := by decide +kernel
theorem e32_shl {a b : Nat} (hb : b < 32) : Int32.ofInt (a : Int) <<< (Int32.ofInt (b : Int) &&& 31) = Int32.ofInt ((a * 2 ^ b : Nat) : Int) := by
  rw [e32_n, e32_n, e32_n]
  refine Int32.toBitVec_inj.mp (BitVec.eq_of_toNat_eq ?_)
  rw [pk_shl (nI a) (nI b &&& 31) b (e32_s b hb)]
  show (BitVec.ofNat 32 a).toNat * 2 ^ b % 2 ^ 32 = (BitVec.ofNat 32 (a * 2 ^ b)).toNat
  rw [BitVec.toNat_ofNat, BitVec.toNat_ofNat, Nat.mod_mul_mod]
theorem e32_shr {a b : Nat} (ha : a < 2147483648) (hb : b < 32) : Int32.ofInt (a : Int) >>> (Int32.ofInt (b : Int) &&& 31) = Int32.ofInt ((a / 2 ^ b : Nat) : Int) := by
  rw [e32_n, e32_n, e32_n]
  exact pk_shrN ha (nI b &&& 31) b (e32_s b hb)
theorem e32_l {x : Int} (hx : -2147483648 ≤ x ∧ x ≤ 2147483647) : (Int32.ofInt x).toInt64 = Int64.ofInt x := Int32.toInt64_ofInt hx.1 hx.2
theorem e32_c (x : Int) : ((Int32.ofInt x).toUInt32 % 65536).toInt32 = Int32.ofInt (x % 65536) := by
  rw [pk_char]
  have h : ((x % 65536).toNat : Int) = x % 65536 := Int.toNat_of_nonneg (Int.emod_nonneg x (by decide))
  rw [← h, e32_n]
  congr 1
  show (BitVec.ofInt 32 x).toNat % 65536 = (x % 65536).toNat
  rw [BitVec.toNat_ofInt]
  omega
theorem e64_cmp {x y : Int} (hx : -9223372036854775808 ≤ x ∧ x ≤ 9223372036854775807) (hy : -9223372036854775808 ≤ y ∧ y ≤ 9223372036854775807) : lg_cmp (Int64.ofInt x) (Int64.ofInt y) = Int32.ofInt (if x < y then -1 else if x = y then 0 else 1) := by
  unfold lg_cmp
  simp only [gt_iff_lt, Int64.lt_iff_toInt_lt, ← Int64.toInt_inj, e64 hx, e64 hy]
  by_cases h1 : y < x
  · rw [if_pos h1, if_neg (by omega), if_neg (by omega)]; rfl
  · by_cases h2 : x = y
    · rw [if_neg h1, if_pos h2, if_neg (by omega), if_pos h2]; rfl
    · rw [if_neg h1, if_neg h2, if_pos (by omega)]; rfl
section Rows
variable {p : Program} {l : Launch} {e : Env} {R : Room} {s : State} {m : MethodId} {args : Array Value} {below : List Frame} {meth : Method} {c : Code} {nL : Nat} {D : va_G} {cA : Nat → ClassId} {b0 : Nat → Prop} {cells slots : Nat} {Q : State → Prop} {lv : Lv} {st : List AV} {ad : Ads} {cn : Nat → Nat} {M : Mem} {cc : ByteArray} {own : String} {tab : List ExceptionTableEntry} {pc pc' : Nat}
theorem w_iconst (C : Cx l p s m args meth c cc own nL D cA b0 tab) {n : Int} (hd : DI cc pc (.iconst n) 1 pc') (kk : Wm p l e R s m args below meth c nL D cA b0 cells slots Q pc' lv (aI n :: st) ad cn M) : Wm p l e R s m args below meth c nL D cA b0 cells slots Q pc lv st ad cn M := fun H locs ls hw hS hl => lv_iconst C.1 C.2.1 hd.1 rfl (by have k := kk H locs ls hw hS hl; rw [← hd.2] at k; exact k)
theorem w_bipush (C : Cx l p s m args meth c cc own nL D cA b0 tab) {n v : Int} (hd : DI cc pc (.bipush n) 2 pc') (hv : (Int8.ofInt n).toInt32 = Int32.ofInt v) (kk : Wm p l e R s m args below meth c nL D cA b0 cells slots Q pc' lv (aI v :: st) ad cn M) : Wm p l e R s m args below meth c nL D cA b0 cells slots Q pc lv st ad cn M := fun H locs ls hw hS hl => lv_bipush C.1 C.2.1 hd.1 hv (by have k := kk H locs ls hw hS hl; rw [← hd.2] at k; exact k)
theorem w_sipush (C : Cx l p s m args meth c cc own nL D cA b0 tab) {n v : Int} (hd : DI cc pc (.sipush n) 3 pc') (hv : (Int16.ofInt n).toInt32 = Int32.ofInt v) (kk : Wm p l e R s m args below meth c nL D cA b0 cells slots Q pc' lv (aI v :: st) ad cn M) : Wm p l e R s m args below meth c nL D cA b0 cells slots Q pc lv st ad cn M := fun H locs ls hw hS hl => lv_sipush C.1 C.2.1 hd.1 hv (by have k := kk H locs ls hw hS hl; rw [← hd.2] at k; exact k)
theorem w_lconst (C : Cx l p s m args meth c cc own nL D cA b0 tab) {n : Fin 2} (hd : DI cc pc (.lconst n) 1 pc') (kk : Wm p l e R s m args below meth c nL D cA b0 cells slots Q pc' lv (aL (n : Nat) :: st) ad cn M) : Wm p l e R s m args below meth c nL D cA b0 cells slots Q pc lv st ad cn M := fun H locs ls hw hS hl => lv_lconst C.1 C.2.1 hd.1 rfl (by have k := kk H locs ls hw hS hl; rw [← hd.2] at k; exact k)
theorem w_ldc (C : Cx l p s m args meth c cc own nL D cA b0 tab) {ix : Nat} {v : Int} (hd : DI cc pc (.ldc ix) 2 pc') (hc : Cond.constant own ix (Int32.ofInt v) ∈ GW) (kk : Wm p l e R s m args below meth c nL D cA b0 cells slots Q pc' lv (aI v :: st) ad cn M) : Wm p l e R s m args below meth c nL D cA b0 cells slots Q pc lv st ad cn M := fun H locs ls hw hS hl => lv_ldc C.1 C.2.1 C.2.2.2.1 (C.2.2.2.2.1 _ hc) hd.1 (by have k := kk H locs ls hw hS hl; rw [← hd.2] at k; exact k)
theorem w_ldcw (C : Cx l p s m args meth c cc own nL D cA b0 tab) {ix : Nat} {v : Int} (hd : DI cc pc (.ldc_w ix) 3 pc') (hc : Cond.constant own ix (Int32.ofInt v) ∈ GW) (kk : Wm p l e R s m args below meth c nL D cA b0 cells slots Q pc' lv (aI v :: st) ad cn M) : Wm p l e R s m args below meth c nL D cA b0 cells slots Q pc lv st ad cn M := fun H locs ls hw hS hl => lv_ldcw C.1 C.2.1 C.2.2.2.1 (C.2.2.2.2.1 _ hc) hd.1 (by have k := kk H locs ls hw hS hl; rw [← hd.2] at k; exact k)
theorem w_iload_n (C : Cx l p s m args meth c cc own nL D cA b0 tab) {k : Fin 4} {x : Int} (hd : DI cc pc (.iload_n k) 1 pc') (hv : lget lv k = some (aI x)) (kk : Wm p l e R s m args below meth c nL D cA b0 cells slots Q pc' lv (aI x :: st) ad cn M) : Wm p l e R s m args below meth c nL D cA b0 cells slots Q pc lv st ad cn M := fun H locs ls hw hS hl => lv_iload_n C.1 C.2.1 hd.1 rfl (lget_has hl hv) (by have k := kk H locs ls hw hS hl; rw [← hd.2] at k; exact k)
theorem w_iload (C : Cx l p s m args meth c cc own nL D cA b0 tab) {i : Nat} {x : Int} (hd : DI cc pc (.iload i) 2 pc') (hv : lget lv i = some (aI x)) (kk : Wm p l e R s m args below meth c nL D cA b0 cells slots Q pc' lv (aI x :: st) ad cn M) : Wm p l e R s m args below meth c nL D cA b0 cells slots Q pc lv st ad cn M := fun H locs ls hw hS hl => lv_iload C.1 C.2.1 hd.1 (lget_has hl hv) (by have k := kk H locs ls hw hS hl; rw [← hd.2] at k; exact k)
theorem w_lload_n (C : Cx l p s m args meth c cc own nL D cA b0 tab) {k : Fin 4} {x : Int} (hd : DI cc pc (.lload_n k) 1 pc') (hv : lget lv k = some (aL x)) (kk : Wm p l e R s m args below meth c nL D cA b0 cells slots Q pc' lv (aL x :: st) ad cn M) : Wm p l e R s m args below meth c nL D cA b0 cells slots Q pc lv st ad cn M := fun H locs ls hw hS hl => lv_lload_n C.1 C.2.1 hd.1 rfl (lget_has hl hv) (by have k := kk H locs ls hw hS hl; rw [← hd.2] at k; exact k)
theorem w_lload (C : Cx l p s m args meth c cc own nL D cA b0 tab) {i : Nat} {x : Int} (hd : DI cc pc (.lload i) 2 pc') (hv : lget lv i = some (aL x)) (kk : Wm p l e R s m args below meth c nL D cA b0 cells slots Q pc' lv (aL x :: st) ad cn M) : Wm p l e R s m args below meth c nL D cA b0 cells slots Q pc lv st ad cn M := fun H locs ls hw hS hl => lv_lload C.1 C.2.1 hd.1 (lget_has hl hv) (by have k := kk H locs ls hw hS hl; rw [← hd.2] at k; exact k)
theorem w_fload (C : Cx l p s m args meth c cc own nL D cA b0 tab) {i : Nat} {x : UInt32} (hd : DI cc pc (.fload i) 2 pc') (hv : lget lv i = some (aF x)) (kk : Wm p l e R s m args below meth c nL D cA b0 cells slots Q pc' lv (aF x :: st) ad cn M) : Wm p l e R s m args below meth c nL D cA b0 cells slots Q pc lv st ad cn M := fun H locs ls hw hS hl => lv_fload C.1 C.2.1 hd.1 (lget_has hl hv) (by have k := kk H locs ls hw hS hl; rw [← hd.2] at k; exact k)
theorem w_dload (C : Cx l p s m args meth c cc own nL D cA b0 tab) {i : Nat} {x : UInt64} (hd : DI cc pc (.dload i) 2 pc') (hv : lget lv i = some (aD x)) (kk : Wm p l e R s m args below meth c nL D cA b0 cells slots Q pc' lv (aD x :: st) ad cn M) : Wm p l e R s m args below meth c nL D cA b0 cells slots Q pc lv st ad cn M := fun H locs ls hw hS hl => lv_dload C.1 C.2.1 hd.1 (lget_has hl hv) (by have k := kk H locs ls hw hS hl; rw [← hd.2] at k; exact k)
theorem w_aload_n (C : Cx l p s m args meth c cc own nL D cA b0 tab) {k : Fin 4} {r : Option (Nat × Nat)} (hd : DI cc pc (.aload_n k) 1 pc') (hv : lget lv k = some (aR r)) (kk : Wm p l e R s m args below meth c nL D cA b0 cells slots Q pc' lv (aR r :: st) ad cn M) : Wm p l e R s m args below meth c nL D cA b0 cells slots Q pc lv st ad cn M := by
  intro H locs ls hw hS hl
  have k := kk H locs ls hw hS hl
  rw [← hd.2] at k
  cases r with
  | none => exact lv_aload_nN C.1 C.2.1 hd.1 rfl (lget_has hl hv) k
  | some q => exact lv_aload_n C.1 C.2.1 hd.1 rfl (lget_has hl hv) k
theorem w_aload (C : Cx l p s m args meth c cc own nL D cA b0 tab) {i : Nat} {r : Option (Nat × Nat)} (hd : DI cc pc (.aload i) 2 pc') (hv : lget lv i = some (aR r)) (kk : Wm p l e R s m args below meth c nL D cA b0 cells slots Q pc' lv (aR r :: st) ad cn M) : Wm p l e R s m args below meth c nL D cA b0 cells slots Q pc lv st ad cn M := by
  intro H locs ls hw hS hl
  have k := kk H locs ls hw hS hl
  rw [← hd.2] at k
  cases r with
  | none => exact lv_aloadN C.1 C.2.1 hd.1 (lget_has hl hv) k
  | some q => exact lv_aload C.1 C.2.1 hd.1 (lget_has hl hv) k
theorem w_istore_n (C : Cx l p s m args meth c cc own nL D cA b0 tab) {k : Fin 4} {x : Int} (hd : DI cc pc (.istore_n k) 1 pc') (hn : (k : Nat) < nL) (kk : Wm p l e R s m args below meth c nL D cA b0 cells slots Q pc' (lset lv k (aI x)) st ad cn M) : Wm p l e R s m args below meth c nL D cA b0 cells slots Q pc lv (aI x :: st) ad cn M := fun H locs ls hw hS hl => lv_istore_n C.1 C.2.1 hd.1 rfl hl hn (lvm_lset ad lv k (aI x)) (fun ls1 hl1 => by have k := kk H locs ls1 hw hS hl1; rw [← hd.2] at k; exact k)
theorem w_istore (C : Cx l p s m args meth c cc own nL D cA b0 tab) {i : Nat} {x : Int} (hd : DI cc pc (.istore i) 2 pc') (hn : i < nL) (kk : Wm p l e R s m args below meth c nL D cA b0 cells slots Q pc' (lset lv i (aI x)) st ad cn M) : Wm p l e R s m args below meth c nL D cA b0 cells slots Q pc lv (aI x :: st) ad cn M := fun H locs ls hw hS hl => lv_istore C.1 C.2.1 hd.1 hl hn (lvm_lset ad lv i (aI x)) (fun ls1 hl1 => by have k := kk H locs ls1 hw hS hl1; rw [← hd.2] at k; exact k)
theorem w_lstore_n (C : Cx l p s m args meth c cc own nL D cA b0 tab) {k : Fin 4} {x : Int} (hd : DI cc pc (.lstore_n k) 1 pc') (hn : (k : Nat) + 1 < nL) (kk : Wm p l e R s m args below meth c nL D cA b0 cells slots Q pc' (lset2 lv k (aL x)) st ad cn M) : Wm p l e R s m args below meth c nL D cA b0 cells slots Q pc lv (aL x :: st) ad cn M := fun H locs ls hw hS hl => lv_lstore_n C.1 C.2.1 hd.1 rfl hl hn (lvm_lset2 ad lv k (aL x)) (fun ls1 hl1 => by have k := kk H locs ls1 hw hS hl1; rw [← hd.2] at k; exact k)
theorem w_fstore (C : Cx l p s m args meth c cc own nL D cA b0 tab) {i : Nat} {x : UInt32} (hd : DI cc pc (.fstore i) 2 pc') (hn : i < nL) (kk : Wm p l e R s m args below meth c nL D cA b0 cells slots Q pc' (lset lv i (aF x)) st ad cn M) : Wm p l e R s m args below meth c nL D cA b0 cells slots Q pc lv (aF x :: st) ad cn M := fun H locs ls hw hS hl => lv_fstore C.1 C.2.1 hd.1 hl hn (lvm_lset ad lv i (aF x)) (fun ls1 hl1 => by have k := kk H locs ls1 hw hS hl1; rw [← hd.2] at k; exact k)
theorem w_dstore (C : Cx l p s m args meth c cc own nL D cA b0 tab) {i : Nat} {x : UInt64} (hd : DI cc pc (.dstore i) 2 pc') (hn : i + 1 < nL) (kk : Wm p l e R s m args below meth c nL D cA b0 cells slots Q pc' (lset2 lv i (aD x)) st ad cn M) : Wm p l e R s m args below meth c nL D cA b0 cells slots Q pc lv (aD x :: st) ad cn M := fun H locs ls hw hS hl => lv_dstore C.1 C.2.1 hd.1 hl hn (lvm_lset2 ad lv i (aD x)) (fun ls1 hl1 => by have k := kk H locs ls1 hw hS hl1; rw [← hd.2] at k; exact k)
theorem w_astore_n (C : Cx l p s m args meth c cc own nL D cA b0 tab) {k : Fin 4} {r : Option (Nat × Nat)} (hd : DI cc pc (.astore_n k) 1 pc') (hn : (k : Nat) < nL) (kk : Wm p l e R s m args below meth c nL D cA b0 cells slots Q pc' (lset lv k (aR r)) st ad cn M) : Wm p l e R s m args below meth c nL D cA b0 cells slots Q pc lv (aR r :: st) ad cn M := by
  intro H locs ls hw hS hl
  have h := lvm_lset ad lv k (aR r)
  cases r with
  | none => exact lv_astore_nN C.1 C.2.1 hd.1 rfl hl hn h (fun ls1 hl1 => by have k := kk H locs ls1 hw hS hl1; rw [← hd.2] at k; exact k)
  | some q => exact lv_astore_n C.1 C.2.1 hd.1 rfl hl hn h (fun ls1 hl1 => by have k := kk H locs ls1 hw hS hl1; rw [← hd.2] at k; exact k)
theorem w_astore (C : Cx l p s m args meth c cc own nL D cA b0 tab) {i : Nat} {r : Option (Nat × Nat)} (hd : DI cc pc (.astore i) 2 pc') (hn : i < nL) (kk : Wm p l e R s m args below meth c nL D cA b0 cells slots Q pc' (lset lv i (aR r)) st ad cn M) : Wm p l e R s m args below meth c nL D cA b0 cells slots Q pc lv (aR r :: st) ad cn M := by
  intro H locs ls hw hS hl
  have h := lvm_lset ad lv i (aR r)
  cases r with
  | none => exact lv_astoreN C.1 C.2.1 hd.1 hl hn h (fun ls1 hl1 => by have k := kk H locs ls1 hw hS hl1; rw [← hd.2] at k; exact k)
  | some q => exact lv_astore C.1 C.2.1 hd.1 hl hn h (fun ls1 hl1 => by have k := kk H locs ls1 hw hS hl1; rw [← hd.2] at k; exact k)
theorem w_iinc (C : Cx l p s m args meth c cc own nL D cA b0 tab) {i : Nat} {n x : Int} (hd : DI cc pc (.iinc i n) 3 pc') (hv : lget lv i = some (aI x)) (hn : i < nL) (kk : Wm p l e R s m args below meth c nL D cA b0 cells slots Q pc' (lset lv i (aI (x + n))) st ad cn M) : Wm p l e R s m args below meth c nL D cA b0 cells slots Q pc lv st ad cn M := by
  intro H locs ls hw hS hl
  obtain ⟨k, hk⟩ := List.getElem?_of_mem (lget_mapped (ad := ad) hv)
  exact lv_iinc C.1 C.2.1 hd.1 hl hk (Int32.ofInt_add x n).symm hn (lvm_lset ad lv i (aI (x + n))) (fun ls1 hl1 => by have k := kk H locs ls1 hw hS hl1; rw [← hd.2] at k; exact k)
theorem w_iadd (C : Cx l p s m args meth c cc own nL D cA b0 tab) {x y : Int} (hd : DI cc pc .iadd 1 pc') (kk : Wm p l e R s m args below meth c nL D cA b0 cells slots Q pc' lv (aI (x + y) :: st) ad cn M) : Wm p l e R s m args below meth c nL D cA b0 cells slots Q pc lv (aI y :: aI x :: st) ad cn M := by
  intro H locs ls hw hS hl
  have k := kk H locs ls hw hS hl
  rw [← hd.2] at k
  exact lv_iadd C.1 C.2.1 hd.1 (by rw [← Int32.ofInt_add]; exact k)
theorem w_isub (C : Cx l p s m args meth c cc own nL D cA b0 tab) {x y : Int} (hd : DI cc pc .isub 1 pc') (kk : Wm p l e R s m args below meth c nL D cA b0 cells slots Q pc' lv (aI (x - y) :: st) ad cn M) : Wm p l e R s m args below meth c nL D cA b0 cells slots Q pc lv (aI y :: aI x :: st) ad cn M := by
  intro H locs ls hw hS hl
  have k := kk H locs ls hw hS hl
  rw [← hd.2] at k
  exact lv_isub C.1 C.2.1 hd.1 (by rw [← Int32.ofInt_sub]; exact k)
theorem w_imul (C : Cx l p s m args meth c cc own nL D cA b0 tab) {x y : Int} (hd : DI cc pc .imul 1 pc') (kk : Wm p l e R s m args below meth c nL D cA b0 cells slots Q pc' lv (aI (x * y) :: st) ad cn M) : Wm p l e R s m args below meth c nL D cA b0 cells slots Q pc lv (aI y :: aI x :: st) ad cn M := by
  intro H locs ls hw hS hl
  have k := kk H locs ls hw hS hl
  rw [← hd.2] at k
  exact lv_imul C.1 C.2.1 hd.1 (by rw [← Int32.ofInt_mul]; exact k)
theorem w_idiv (C : Cx l p s m args meth c cc own nL D cA b0 tab) {x y : Int} (hd : DI cc pc .idiv 1 pc') (hx : 0 ≤ x ∧ x ≤ 2147483647) (hy : 0 < y ∧ y ≤ 2147483647) (kk : Wm p l e R s m args below meth c nL D cA b0 cells slots Q pc' lv (aI (x / y) :: st) ad cn M) : Wm p l e R s m args below meth c nL D cA b0 cells slots Q pc lv (aI y :: aI x :: st) ad cn M := by
  intro H locs ls hw hS hl
  have k := kk H locs ls hw hS hl
  rw [← hd.2] at k
  have hne : ¬ Int32.ofInt y = 0 := fun h => by
    rw [z32, e32_eq (by omega) (by omega)] at h
    omega
  exact lv_idiv C.1 C.2.1 hd.1 hne (by rw [e32_div hx hy]; exact k)
theorem w_irem (C : Cx l p s m args meth c cc own nL D cA b0 tab) {x y : Int} (hd : DI cc pc .irem 1 pc') (hx : 0 ≤ x ∧ x ≤ 2147483647) (hy : 0 < y ∧ y ≤ 2147483647) (kk : Wm p l e R s m args below meth c nL D cA b0 cells slots Q pc' lv (aI (x % y) :: st) ad cn M) : Wm p l e R s m args below meth c nL D cA b0 cells slots Q pc lv (aI y :: aI x :: st) ad cn M := by
  intro H locs ls hw hS hl
  have k := kk H locs ls hw hS hl
  rw [← hd.2] at k
  have hne : ¬ Int32.ofInt y = 0 := fun h => by
    rw [z32, e32_eq (by omega) (by omega)] at h
    omega
  exact lv_irem C.1 C.2.1 hd.1 hne (by rw [e32_div hx hy, ← Int32.ofInt_mul, ← Int32.ofInt_sub, e32_mod]; exact k)
theorem w_iand (C : Cx l p s m args meth c cc own nL D cA b0 tab) {x y : Nat} (hd : DI cc pc .iand 1 pc') (hx : x < 2147483648) (hy : y < 2147483648) (kk : Wm p l e R s m args below meth c nL D cA b0 cells slots Q pc' lv (aI ((x &&& y : Nat) : Int) :: st) ad cn M) : Wm p l e R s m args below meth c nL D cA b0 cells slots Q pc lv (aI y :: aI x :: st) ad cn M := by
  intro H locs ls hw hS hl
  have k := kk H locs ls hw hS hl
  rw [← hd.2] at k
  exact lv_iand C.1 C.2.1 hd.1 (by rw [e32_and hx hy]; exact k)
theorem w_ior (C : Cx l p s m args meth c cc own nL D cA b0 tab) {x y : Nat} (hd : DI cc pc .ior 1 pc') (hx : x < 2147483648) (hy : y < 2147483648) (kk : Wm p l e R s m args below meth c nL D cA b0 cells slots Q pc' lv (aI ((x ||| y : Nat) : Int) :: st) ad cn M) : Wm p l e R s m args below meth c nL D cA b0 cells slots Q pc lv (aI y :: aI x :: st) ad cn M := by
  intro H locs ls hw hS hl
  have k := kk H locs ls hw hS hl
  rw [← hd.2] at k
  exact lv_ior C.1 C.2.1 hd.1 (by rw [e32_or hx hy]; exact k)
theorem w_ishl (C : Cx l p s m args meth c cc own nL D cA b0 tab) {x y : Nat} (hd : DI cc pc .ishl 1 pc') (hy : y < 32) (kk : Wm p l e R s m args below meth c nL D cA b0 cells slots Q pc' lv (aI ((x * 2 ^ y : Nat) : Int) :: st) ad cn M) : Wm p l e R s m args below meth c nL D cA b0 cells slots Q pc lv (aI y :: aI x :: st) ad cn M := by
  intro H locs ls hw hS hl
  have k := kk H locs ls hw hS hl
  rw [← hd.2] at k
  exact lv_ishl C.1 C.2.1 hd.1 (by rw [e32_shl hy]; exact k)
theorem w_ishr (C : Cx l p s m args meth c cc own nL D cA b0 tab) {x y : Nat} (hd : DI cc pc .ishr 1 pc') (hx : x < 2147483648) (hy : y < 32) (kk : Wm p l e R s m args below meth c nL D cA b0 cells slots Q pc' lv (aI ((x / 2 ^ y : Nat) : Int) :: st) ad cn M) : Wm p l e R s m args below meth c nL D cA b0 cells slots Q pc lv (aI y :: aI x :: st) ad cn M := by
  intro H locs ls hw hS hl
  have k := kk H locs ls hw hS hl
  rw [← hd.2] at k
  exact lv_ishr C.1 C.2.1 hd.1 (by rw [e32_shr hx hy]; exact k)
theorem w_i2l (C : Cx l p s m args meth c cc own nL D cA b0 tab) {x : Int} (hd : DI cc pc .i2l 1 pc') (hx : -2147483648 ≤ x ∧ x ≤ 2147483647) (kk : Wm p l e R s m args below meth c nL D cA b0 cells slots Q pc' lv (aL x :: st) ad cn M) : Wm p l e R s m args below meth c nL D cA b0 cells slots Q pc lv (aI x :: st) ad cn M := fun H locs ls hw hS hl => lv_i2l C.1 C.2.1 hd.1 (e32_l hx) (by have k := kk H locs ls hw hS hl; rw [← hd.2] at k; exact k)
theorem w_i2c (C : Cx l p s m args meth c cc own nL D cA b0 tab) {x : Int} (hd : DI cc pc .i2c 1 pc') (kk : Wm p l e R s m args below meth c nL D cA b0 cells slots Q pc' lv (aI (x % 65536) :: st) ad cn M) : Wm p l e R s m args below meth c nL D cA b0 cells slots Q pc lv (aI x :: st) ad cn M := fun H locs ls hw hS hl => lv_i2c C.1 C.2.1 hd.1 (e32_c x) (by have k := kk H locs ls hw hS hl; rw [← hd.2] at k; exact k)
theorem w_ladd (C : Cx l p s m args meth c cc own nL D cA b0 tab) {x y : Int} (hd : DI cc pc .ladd 1 pc') (kk : Wm p l e R s m args below meth c nL D cA b0 cells slots Q pc' lv (aL (x + y) :: st) ad cn M) : Wm p l e R s m args below meth c nL D cA b0 cells slots Q pc lv (aL y :: aL x :: st) ad cn M := by
  intro H locs ls hw hS hl
  have k := kk H locs ls hw hS hl
  rw [← hd.2] at k
  exact lv_ladd C.1 C.2.1 hd.1 (by rw [← Int64.ofInt_add]; exact k)
theorem w_lmul (C : Cx l p s m args meth c cc own nL D cA b0 tab) {x y : Int} (hd : DI cc pc .lmul 1 pc') (kk : Wm p l e R s m args below meth c nL D cA b0 cells slots Q pc' lv (aL (x * y) :: st) ad cn M) : Wm p l e R s m args below meth c nL D cA b0 cells slots Q pc lv (aL y :: aL x :: st) ad cn M := by
  intro H locs ls hw hS hl
  have k := kk H locs ls hw hS hl
  rw [← hd.2] at k
  exact lv_lmul C.1 C.2.1 hd.1 (by rw [← Int64.ofInt_mul]; exact k)
theorem w_lcmp (C : Cx l p s m args meth c cc own nL D cA b0 tab) {x y : Int} (hd : DI cc pc .lcmp 1 pc') (hx : -9223372036854775808 ≤ x ∧ x ≤ 9223372036854775807) (hy : -9223372036854775808 ≤ y ∧ y ≤ 9223372036854775807) (kk : Wm p l e R s m args below meth c nL D cA b0 cells slots Q pc' lv (aI (if x < y then -1 else if x = y then 0 else 1) :: st) ad cn M) : Wm p l e R s m args below meth c nL D cA b0 cells slots Q pc lv (aL y :: aL x :: st) ad cn M := by
  intro H locs ls hw hS hl
  have k := kk H locs ls hw hS hl
  rw [← hd.2] at k
  refine W.lcmp C.1 C.2.1 hd.1 ?_
  rw [e64_cmp hx hy]
  exact k
theorem w_dup (C : Cx l p s m args meth c cc own nL D cA b0 tab) {v : AV} (hd : DI cc pc .dup 1 pc') (hv : cat2 v = false) (kk : Wm p l e R s m args below meth c nL D cA b0 cells slots Q pc' lv (v :: v :: st) ad cn M) : Wm p l e R s m args below meth c nL D cA b0 cells slots Q pc lv (v :: st) ad cn M := fun H locs ls hw hS hl => lv_dup C.1 C.2.1 hd.1 (tv_cat1 hv) (by have k := kk H locs ls hw hS hl; rw [← hd.2] at k; exact k)
theorem w_pop (C : Cx l p s m args meth c cc own nL D cA b0 tab) {v : AV} (hd : DI cc pc .pop 1 pc') (hv : cat2 v = false) (kk : Wm p l e R s m args below meth c nL D cA b0 cells slots Q pc' lv st ad cn M) : Wm p l e R s m args below meth c nL D cA b0 cells slots Q pc lv (v :: st) ad cn M := fun H locs ls hw hS hl => lv_pop C.1 C.2.1 hd.1 (tv_cat1 hv) (by have k := kk H locs ls hw hS hl; rw [← hd.2] at k; exact k)
theorem w_dup2 (C : Cx l p s m args meth c cc own nL D cA b0 tab) {v w : AV} (hd : DI cc pc .dup2 1 pc') (hv : cat2 v = false) (hw2 : cat2 w = false) (kk : Wm p l e R s m args below meth c nL D cA b0 cells slots Q pc' lv (v :: w :: v :: w :: st) ad cn M) : Wm p l e R s m args below meth c nL D cA b0 cells slots Q pc lv (v :: w :: st) ad cn M := fun H locs ls hw hS hl => lv_dup2_11 C.1 C.2.1 hd.1 (tv_cat1 hv) (tv_cat1 hw2) (by have k := kk H locs ls hw hS hl; rw [← hd.2] at k; exact k)
theorem w_null (C : Cx l p s m args meth c cc own nL D cA b0 tab) (hd : DI cc pc .aconst_null 1 pc') (kk : Wm p l e R s m args below meth c nL D cA b0 cells slots Q pc' lv (aN :: st) ad cn M) : Wm p l e R s m args below meth c nL D cA b0 cells slots Q pc lv st ad cn M := fun H locs ls hw hS hl => lv_null C.1 C.2.1 hd.1 (by have k := kk H locs ls hw hS hl; rw [← hd.2] at k; exact k)
theorem w_i2f (C : Cx l p s m args meth c cc own nL D cA b0 tab) {x : Int} (hd : DI cc pc .i2f 1 pc') (kk : Wm p l e R s m args below meth c nL D cA b0 cells slots Q pc' lv (aF (FP.i2f (Int32.ofInt x)) :: st) ad cn M) : Wm p l e R s m args below meth c nL D cA b0 cells slots Q pc lv (aI x :: st) ad cn M := fun H locs ls hw hS hl => lv_i2f C.1 C.2.1 hd.1 (by have k := kk H locs ls hw hS hl; rw [← hd.2] at k; exact k)
theorem w_i2d (C : Cx l p s m args meth c cc own nL D cA b0 tab) {x : Int} (hd : DI cc pc .i2d 1 pc') (kk : Wm p l e R s m args below meth c nL D cA b0 cells slots Q pc' lv (aD (FP.i2d (Int32.ofInt x)) :: st) ad cn M) : Wm p l e R s m args below meth c nL D cA b0 cells slots Q pc lv (aI x :: st) ad cn M := fun H locs ls hw hS hl => lv_i2d C.1 C.2.1 hd.1 (by have k := kk H locs ls hw hS hl; rw [← hd.2] at k; exact k)
theorem w_fdiv (C : Cx l p s m args meth c cc own nL D cA b0 tab) {x y : UInt32} (hd : DI cc pc .fdiv 1 pc') (hn : vf_n32 (FP.fdiv x y)) (kk : Wm p l e R s m args below meth c nL D cA b0 cells slots Q pc' lv (aF (FP.fdiv x y) :: st) ad cn M) : Wm p l e R s m args below meth c nL D cA b0 cells slots Q pc lv (aF y :: aF x :: st) ad cn M := fun H locs ls hw hS hl => lv_fdiv C.1 C.2.1 hd.1 hn (by have k := kk H locs ls hw hS hl; rw [← hd.2] at k; exact k)
theorem w_ddiv (C : Cx l p s m args meth c cc own nL D cA b0 tab) {x y : UInt64} (hd : DI cc pc .ddiv 1 pc') (hn : vf_n64 (FP.ddiv x y)) (kk : Wm p l e R s m args below meth c nL D cA b0 cells slots Q pc' lv (aD (FP.ddiv x y) :: st) ad cn M) : Wm p l e R s m args below meth c nL D cA b0 cells slots Q pc lv (aD y :: aD x :: st) ad cn M := fun H locs ls hw hS hl => lv_ddiv C.1 C.2.1 hd.1 hn (by have k := kk H locs ls hw hS hl; rw [← hd.2] at k; exact k)
theorem w_f2d (C : Cx l p s m args meth c cc own nL D cA b0 tab) {x : UInt32} (hd : DI cc pc .f2d 1 pc') (hn : vf_n64 (FP.f2d x)) (kk : Wm p l e R s m args below meth c nL D cA b0 cells slots Q pc' lv (aD (FP.f2d x) :: st) ad cn M) : Wm p l e R s m args below meth c nL D cA b0 cells slots Q pc lv (aF x :: st) ad cn M := fun H locs ls hw hS hl => lv_f2d C.1 C.2.1 hd.1 hn (by have k := kk H locs ls hw hS hl; rw [← hd.2] at k; exact k)
theorem w_if_eq (C : Cx l p s m args meth c cc own nL D cA b0 tab) {x off : Int} {tgt : Nat} (hd : DJ cc pc (.ifCond .eq off) off tgt pc') (hx : -2147483648 ≤ x ∧ x ≤ 2147483647) (kt : (x = 0) → Wm p l e R s m args below meth c nL D cA b0 cells slots Q tgt lv st ad cn M) (kf : ¬ (x = 0) → Wm p l e R s m args below meth c nL D cA b0 cells slots Q pc' lv st ad cn M) : Wm p l e R s m args below meth c nL D cA b0 cells slots Q pc lv (aI x :: st) ad cn M := fun H locs ls hw hS hl => lv_if_eq C.1 C.2.1 hd.1 hd.2.1 (fun h => kt ((e32_eq hx (by omega)).mp h) H locs ls hw hS hl) (fun h => by have k := kf (fun q => h ((e32_eq hx (by omega)).mpr q)) H locs ls hw hS hl; rw [← hd.2.2] at k; exact k)
theorem w_if_ne (C : Cx l p s m args meth c cc own nL D cA b0 tab) {x off : Int} {tgt : Nat} (hd : DJ cc pc (.ifCond .ne off) off tgt pc') (hx : -2147483648 ≤ x ∧ x ≤ 2147483647) (kt : (x ≠ 0) → Wm p l e R s m args below meth c nL D cA b0 cells slots Q tgt lv st ad cn M) (kf : ¬ (x ≠ 0) → Wm p l e R s m args below meth c nL D cA b0 cells slots Q pc' lv st ad cn M) : Wm p l e R s m args below meth c nL D cA b0 cells slots Q pc lv (aI x :: st) ad cn M := fun H locs ls hw hS hl => lv_if_ne C.1 C.2.1 hd.1 hd.2.1 (fun h => kt (fun q => h (by rw [q]; rfl)) H locs ls hw hS hl) (fun h => by have k := kf (fun q => q ((e32_eq hx (by omega)).mp h)) H locs ls hw hS hl; rw [← hd.2.2] at k; exact k)
theorem w_if_lt (C : Cx l p s m args meth c cc own nL D cA b0 tab) {x off : Int} {tgt : Nat} (hd : DJ cc pc (.ifCond .lt off) off tgt pc') (hx : -2147483648 ≤ x ∧ x ≤ 2147483647) (kt : (x < 0) → Wm p l e R s m args below meth c nL D cA b0 cells slots Q tgt lv st ad cn M) (kf : ¬ (x < 0) → Wm p l e R s m args below meth c nL D cA b0 cells slots Q pc' lv st ad cn M) : Wm p l e R s m args below meth c nL D cA b0 cells slots Q pc lv (aI x :: st) ad cn M := fun H locs ls hw hS hl => lv_if_lt C.1 C.2.1 hd.1 hd.2.1 (fun h => kt ((e32_lt hx (by omega)).mp h) H locs ls hw hS hl) (fun h => by have k := kf (fun q => h ((e32_lt hx (by omega)).mpr q)) H locs ls hw hS hl; rw [← hd.2.2] at k; exact k)
theorem w_if_ge (C : Cx l p s m args meth c cc own nL D cA b0 tab) {x off : Int} {tgt : Nat} (hd : DJ cc pc (.ifCond .ge off) off tgt pc') (hx : -2147483648 ≤ x ∧ x ≤ 2147483647) (kt : (0 ≤ x) → Wm p l e R s m args below meth c nL D cA b0 cells slots Q tgt lv st ad cn M) (kf : ¬ (0 ≤ x) → Wm p l e R s m args below meth c nL D cA b0 cells slots Q pc' lv st ad cn M) : Wm p l e R s m args below meth c nL D cA b0 cells slots Q pc lv (aI x :: st) ad cn M := fun H locs ls hw hS hl => lv_if_ge C.1 C.2.1 hd.1 hd.2.1 (fun h => kt ((e32_le (by omega) hx).mp h) H locs ls hw hS hl) (fun h => by have k := kf (fun q => h ((e32_le (by omega) hx).mpr q)) H locs ls hw hS hl; rw [← hd.2.2] at k; exact k)
theorem w_if_gt (C : Cx l p s m args meth c cc own nL D cA b0 tab) {x off : Int} {tgt : Nat} (hd : DJ cc pc (.ifCond .gt off) off tgt pc') (hx : -2147483648 ≤ x ∧ x ≤ 2147483647) (kt : (0 < x) → Wm p l e R s m args below meth c nL D cA b0 cells slots Q tgt lv st ad cn M) (kf : ¬ (0 < x) → Wm p l e R s m args below meth c nL D cA b0 cells slots Q pc' lv st ad cn M) : Wm p l e R s m args below meth c nL D cA b0 cells slots Q pc lv (aI x :: st) ad cn M := fun H locs ls hw hS hl => lv_if_gt C.1 C.2.1 hd.1 hd.2.1 (fun h => kt ((e32_lt (by omega) hx).mp h) H locs ls hw hS hl) (fun h => by have k := kf (fun q => h ((e32_lt (by omega) hx).mpr q)) H locs ls hw hS hl; rw [← hd.2.2] at k; exact k)
theorem w_if_le (C : Cx l p s m args meth c cc own nL D cA b0 tab) {x off : Int} {tgt : Nat} (hd : DJ cc pc (.ifCond .le off) off tgt pc') (hx : -2147483648 ≤ x ∧ x ≤ 2147483647) (kt : (x ≤ 0) → Wm p l e R s m args below meth c nL D cA b0 cells slots Q tgt lv st ad cn M) (kf : ¬ (x ≤ 0) → Wm p l e R s m args below meth c nL D cA b0 cells slots Q pc' lv st ad cn M) : Wm p l e R s m args below meth c nL D cA b0 cells slots Q pc lv (aI x :: st) ad cn M := fun H locs ls hw hS hl => lv_if_le C.1 C.2.1 hd.1 hd.2.1 (fun h => kt ((e32_le hx (by omega)).mp h) H locs ls hw hS hl) (fun h => by have k := kf (fun q => h ((e32_le hx (by omega)).mpr q)) H locs ls hw hS hl; rw [← hd.2.2] at k; exact k)
theorem w_icmp_eq (C : Cx l p s m args meth c cc own nL D cA b0 tab) {x y off : Int} {tgt : Nat} (hd : DJ cc pc (.if_icmp .eq off) off tgt pc') (hx : -2147483648 ≤ x ∧ x ≤ 2147483647) (hy : -2147483648 ≤ y ∧ y ≤ 2147483647) (kt : (x = y) → Wm p l e R s m args below meth c nL D cA b0 cells slots Q tgt lv st ad cn M) (kf : ¬ (x = y) → Wm p l e R s m args below meth c nL D cA b0 cells slots Q pc' lv st ad cn M) : Wm p l e R s m args below meth c nL D cA b0 cells slots Q pc lv (aI y :: aI x :: st) ad cn M := fun H locs ls hw hS hl => lv_icmp_eq C.1 C.2.1 hd.1 hd.2.1 (fun h => kt ((e32_eq hx hy).mp h) H locs ls hw hS hl) (fun h => by have k := kf (fun q => h ((e32_eq hx hy).mpr q)) H locs ls hw hS hl; rw [← hd.2.2] at k; exact k)
theorem w_icmp_ne (C : Cx l p s m args meth c cc own nL D cA b0 tab) {x y off : Int} {tgt : Nat} (hd : DJ cc pc (.if_icmp .ne off) off tgt pc') (hx : -2147483648 ≤ x ∧ x ≤ 2147483647) (hy : -2147483648 ≤ y ∧ y ≤ 2147483647) (kt : (x ≠ y) → Wm p l e R s m args below meth c nL D cA b0 cells slots Q tgt lv st ad cn M) (kf : ¬ (x ≠ y) → Wm p l e R s m args below meth c nL D cA b0 cells slots Q pc' lv st ad cn M) : Wm p l e R s m args below meth c nL D cA b0 cells slots Q pc lv (aI y :: aI x :: st) ad cn M := fun H locs ls hw hS hl => lv_icmp_ne C.1 C.2.1 hd.1 hd.2.1 (fun h => kt (fun q => h (by rw [q])) H locs ls hw hS hl) (fun h => by have k := kf (fun q => q ((e32_eq hx hy).mp h)) H locs ls hw hS hl; rw [← hd.2.2] at k; exact k)
theorem w_icmp_lt (C : Cx l p s m args meth c cc own nL D cA b0 tab) {x y off : Int} {tgt : Nat} (hd : DJ cc pc (.if_icmp .lt off) off tgt pc') (hx : -2147483648 ≤ x ∧ x ≤ 2147483647) (hy : -2147483648 ≤ y ∧ y ≤ 2147483647) (kt : (x < y) → Wm p l e R s m args below meth c nL D cA b0 cells slots Q tgt lv st ad cn M) (kf : ¬ (x < y) → Wm p l e R s m args below meth c nL D cA b0 cells slots Q pc' lv st ad cn M) : Wm p l e R s m args below meth c nL D cA b0 cells slots Q pc lv (aI y :: aI x :: st) ad cn M := fun H locs ls hw hS hl => lv_icmp_lt C.1 C.2.1 hd.1 hd.2.1 (fun h => kt ((e32_lt hx hy).mp h) H locs ls hw hS hl) (fun h => by have k := kf (fun q => h ((e32_lt hx hy).mpr q)) H locs ls hw hS hl; rw [← hd.2.2] at k; exact k)
theorem w_icmp_ge (C : Cx l p s m args meth c cc own nL D cA b0 tab) {x y off : Int} {tgt : Nat} (hd : DJ cc pc (.if_icmp .ge off) off tgt pc') (hx : -2147483648 ≤ x ∧ x ≤ 2147483647) (hy : -2147483648 ≤ y ∧ y ≤ 2147483647) (kt : (y ≤ x) → Wm p l e R s m args below meth c nL D cA b0 cells slots Q tgt lv st ad cn M) (kf : ¬ (y ≤ x) → Wm p l e R s m args below meth c nL D cA b0 cells slots Q pc' lv st ad cn M) : Wm p l e R s m args below meth c nL D cA b0 cells slots Q pc lv (aI y :: aI x :: st) ad cn M := fun H locs ls hw hS hl => lv_icmp_ge C.1 C.2.1 hd.1 hd.2.1 (fun h => kt ((e32_le hy hx).mp h) H locs ls hw hS hl) (fun h => by have k := kf (fun q => h ((e32_le hy hx).mpr q)) H locs ls hw hS hl; rw [← hd.2.2] at k; exact k)
theorem w_icmp_gt (C : Cx l p s m args meth c cc own nL D cA b0 tab) {x y off : Int} {tgt : Nat} (hd : DJ cc pc (.if_icmp .gt off) off tgt pc') (hx : -2147483648 ≤ x ∧ x ≤ 2147483647) (hy : -2147483648 ≤ y ∧ y ≤ 2147483647) (kt : (y < x) → Wm p l e R s m args below meth c nL D cA b0 cells slots Q tgt lv st ad cn M) (kf : ¬ (y < x) → Wm p l e R s m args below meth c nL D cA b0 cells slots Q pc' lv st ad cn M) : Wm p l e R s m args below meth c nL D cA b0 cells slots Q pc lv (aI y :: aI x :: st) ad cn M := fun H locs ls hw hS hl => lv_icmp_gt C.1 C.2.1 hd.1 hd.2.1 (fun h => kt ((e32_lt hy hx).mp h) H locs ls hw hS hl) (fun h => by have k := kf (fun q => h ((e32_lt hy hx).mpr q)) H locs ls hw hS hl; rw [← hd.2.2] at k; exact k)
theorem w_icmp_le (C : Cx l p s m args meth c cc own nL D cA b0 tab) {x y off : Int} {tgt : Nat} (hd : DJ cc pc (.if_icmp .le off) off tgt pc') (hx : -2147483648 ≤ x ∧ x ≤ 2147483647) (hy : -2147483648 ≤ y ∧ y ≤ 2147483647) (kt : (x ≤ y) → Wm p l e R s m args below meth c nL D cA b0 cells slots Q tgt lv st ad cn M) (kf : ¬ (x ≤ y) → Wm p l e R s m args below meth c nL D cA b0 cells slots Q pc' lv st ad cn M) : Wm p l e R s m args below meth c nL D cA b0 cells slots Q pc lv (aI y :: aI x :: st) ad cn M := fun H locs ls hw hS hl => lv_icmp_le C.1 C.2.1 hd.1 hd.2.1 (fun h => kt ((e32_le hx hy).mp h) H locs ls hw hS hl) (fun h => by have k := kf (fun q => h ((e32_le hx hy).mpr q)) H locs ls hw hS hl; rw [← hd.2.2] at k; exact k)
theorem w_goto (C : Cx l p s m args meth c cc own nL D cA b0 tab) {off : Int} {tgt : Nat} (hd : DJ cc pc (.goto off) off tgt pc') (kk : Wm p l e R s m args below meth c nL D cA b0 cells slots Q tgt lv st ad cn M) : Wm p l e R s m args below meth c nL D cA b0 cells slots Q pc lv st ad cn M := fun H locs ls hw hS hl => lv_goto C.1 C.2.1 hd.1 hd.2.1 (kk H locs ls hw hS hl)
theorem w_ifnull (C : Cx l p s m args meth c cc own nL D cA b0 tab) {r : Option (Nat × Nat)} {off : Int} {tgt : Nat} (hd : DJ cc pc (.ifnull off) off tgt pc') (kt : r = none → Wm p l e R s m args below meth c nL D cA b0 cells slots Q tgt lv st ad cn M) (kf : (∃ q, r = some q) → Wm p l e R s m args below meth c nL D cA b0 cells slots Q pc' lv st ad cn M) : Wm p l e R s m args below meth c nL D cA b0 cells slots Q pc lv (aR r :: st) ad cn M := by
  intro H locs ls hw hS hl
  cases r with
  | none => exact lv_ifnullN C.1 C.2.1 hd.1 hd.2.1 (kt rfl H locs ls hw hS hl)
  | some q =>
    have k := kf ⟨q, rfl⟩ H locs ls hw hS hl
    rw [← hd.2.2] at k
    exact lv_ifnull C.1 C.2.1 hd.1 k
theorem w_ifnonnull (C : Cx l p s m args meth c cc own nL D cA b0 tab) {r : Option (Nat × Nat)} {off : Int} {tgt : Nat} (hd : DJ cc pc (.ifnonnull off) off tgt pc') (kt : (∃ q, r = some q) → Wm p l e R s m args below meth c nL D cA b0 cells slots Q tgt lv st ad cn M) (kf : r = none → Wm p l e R s m args below meth c nL D cA b0 cells slots Q pc' lv st ad cn M) : Wm p l e R s m args below meth c nL D cA b0 cells slots Q pc lv (aR r :: st) ad cn M := by
  intro H locs ls hw hS hl
  cases r with
  | none =>
    have k := kf rfl H locs ls hw hS hl
    rw [← hd.2.2] at k
    exact lv_ifnonnullN C.1 C.2.1 hd.1 k
  | some q => exact lv_ifnonnull C.1 C.2.1 hd.1 hd.2.1 (kt ⟨q, rfl⟩ H locs ls hw hS hl)
theorem w_acmp_ne (C : Cx l p s m args meth c cc own nL D cA b0 tab) {r r2 : Option (Nat × Nat)} {off : Int} {tgt : Nat} (hd : DJ cc pc (.if_acmp .ne off) off tgt pc') (hr : ∀ q, r = some q → inD cn q.1 q.2) (hr2 : ∀ q, r2 = some q → inD cn q.1 q.2)
    (kt : r ≠ r2 → Wm p l e R s m args below meth c nL D cA b0 cells slots Q tgt lv st ad cn M) (kf : r = r2 → Wm p l e R s m args below meth c nL D cA b0 cells slots Q pc' lv st ad cn M) : Wm p l e R s m args below meth c nL D cA b0 cells slots Q pc lv (aR r2 :: aR r :: st) ad cn M := by
  intro H locs ls hw hS hl
  have e : (r.map fun q => ad q.1 q.2) = (r2.map fun q => ad q.1 q.2) ↔ r = r2 := by
    refine ⟨fun h => ?_, fun h => by rw [h]⟩
    cases r with
    | none =>
      cases r2 with
      | none => rfl
      | some q2 => cases h
    | some q =>
      cases r2 with
      | none => cases h
      | some q2 =>
        have h1 := hw.2.1 _ _ _ _ (hr q rfl) (hr2 q2 rfl) (Option.some.inj h)
        exact congrArg some (Prod.ext h1.1 h1.2)
  have t1 : ∀ r : Option (Nat × Nat), tv ad (aR r) = va_rf (r.map fun q => ad q.1 q.2) := fun r => by cases r <;> rfl
  refine W.eq (g2 := F0 m pc ls (va_rf (r2.map fun q => ad q.1 q.2) :: va_rf (r.map fun q => ad q.1 q.2) :: st.map (tv ad))) (by rw [← t1, ← t1]; rfl) ?_
  refine lv_acmp_ne C.1 C.2.1 hd.1 hd.2.1 (fun h => kt (fun q => h (e.mpr q)) H locs ls hw hS hl) (fun h => ?_)
  have k := kf (e.mp h) H locs ls hw hS hl
  rw [← hd.2.2] at k
  exact k
end Rows
