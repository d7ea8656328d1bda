/-! a turn of the law: reading an argument, truth of one, the same on both sides -/
section Rows
variable {p : Program} {l : Launch} {e : Env} {R : Room} {s : State} {m : MethodId} {args : Array Value} {below : List Frame} {meth : Method} {c : Code} {nL : Nat} {D : va_G} {cA : Nat → ClassId} {b0 : Nat → Prop} {cells slots : Nat} {Q : State → Prop} {lv : Lv} {st : List AV} {ad : Ads} {cn : Nat → Nat} {M : Mem} {cc : ByteArray} {own : String} {tab : List ExceptionTableEntry} {pc pc' : Nat}
theorem w_arg (C : Cx l p s m args meth c cc own nL D cA b0 tab) {b L : Nat} {xs : Nat → Int32} (hX : va_X b L xs s s.heap) (hbl : b < s.heap.size) (hbA : ¬ b0 b) (had : ad 99 0 = b) (hL : L ≤ 2147483647) {i k : Int} {q0 q1 q2 q3 q4 q5 : Nat} (hi : 0 ≤ i ∧ i + 5 < L) (hk : 0 ≤ k ∧ k ≤ 5) (d0 : DI cc q0 (.aload_n 0) 1 q1) (d1 : DI cc q1 (.iload 5) 2 q2) (d2 : DI cc q2 (.iconst k) 1 q3) (d3 : DI cc q3 .iadd 1 q4) (d4 : DI cc q4 .iaload 1 q5) (l0 : lget lv 0 = some (aO 99 0)) (l5 : lget lv 5 = some (aI i))
    (kk : Wm p l e R s m args below meth c nL D cA b0 cells slots Q q5 lv (aI (xs (i + k).toNat).toInt :: st) ad cn M) : Wm p l e R s m args below meth c nL D cA b0 cells slots Q q0 lv st ad cn M := by
  refine w_aload_n C d0 l0 ?_
  refine w_iload C d1 l5 ?_
  refine w_iconst C d2 ?_
  refine w_iadd C d3 ?_
  exact w_sld C hX hbl hbA had d4 (by omega) hL kk
/-- x != 0 -/
def wb (x : Int) : Nat := if x = 0 then 0 else 1
theorem wb_le (x : Int) : wb x ≤ 1 := by
  unfold wb
  split <;> omega
theorem w_nz (C : Cx l p s m args meth c cc own nL D cA b0 tab) {x off off2 : Int} {q0 q1 q2 q2' q3 q4 : Nat} (hx : -2147483648 ≤ x ∧ x ≤ 2147483647) (d0 : DJ cc q0 (.ifCond .eq off) off q3 q1) (d1 : DI cc q1 (.iconst 1) 1 q2) (d2 : DJ cc q2 (.goto off2) off2 q4 q2') (d3 : DI cc q3 (.iconst 0) 1 q4)
    (kk : Wm p l e R s m args below meth c nL D cA b0 cells slots Q q4 lv (aI (wb x : Nat) :: st) ad cn M) : Wm p l e R s m args below meth c nL D cA b0 cells slots Q q0 lv (aI x :: st) ad cn M := by
  refine w_if_eq C d0 hx (fun h => ?_) (fun h => ?_)
  · refine w_iconst C d3 ?_
    have e : wb x = 0 := if_pos h
    rw [e] at kk
    exact kk
  · refine w_iconst C d1 ?_
    refine w_goto C d2 ?_
    have e : wb x = 1 := if_neg h
    rw [e] at kk
    exact kk
theorem i32_63 (x : Int32) : 0 ≤ (x &&& Int32.ofInt 63).toInt ∧ (x &&& Int32.ofInt 63).toInt ≤ 63 := by
  have h1 : (x &&& Int32.ofInt 63).toBitVec.toNat ≤ 63 := by
    show (x.toBitVec &&& BitVec.ofInt 32 63).toNat ≤ 63
    rw [BitVec.toNat_and]
    exact Nat.and_le_right
  have h2 : (x &&& Int32.ofInt 63).toInt = ((x &&& Int32.ofInt 63).toBitVec.toNat : Int) := by
    show (x &&& Int32.ofInt 63).toBitVec.toInt = _
    rw [BitVec.toInt_eq_toNat_of_lt (by omega)]
  rw [h2]
  omega
theorem w_iand63 (C : Cx l p s m args meth c cc own nL D cA b0 tab) (hd : DI cc pc .iand 1 pc') {x : Int} (kk : ∀ z : Int, 0 ≤ z ∧ z ≤ 63 → Wm p l e R s m args below meth c nL D cA b0 cells slots Q pc' lv (aI z :: st) ad cn M) : Wm p l e R s m args below meth c nL D cA b0 cells slots Q pc lv (aI 63 :: aI x :: st) ad cn M := by
  intro H locs ls hw hS hl
  have k := kk _ (i32_63 (Int32.ofInt x)) H locs ls hw hS hl
  rw [← hd.2] at k
  exact lv_iand C.1 C.2.1 hd.1 (by rw [← Int32.ofInt_toInt (Int32.ofInt x &&& Int32.ofInt 63)]; exact k)
theorem w_icmpES (C : Cx l p s m args meth c cc own nL D cA b0 tab) {x y off : Int} {tgt : Nat} (hd : DJ cc pc (.if_icmp .eq off) off tgt pc') (hxy : y = x) (kk : Wm p l e R s m args below meth c nL D cA b0 cells slots Q tgt lv st ad cn M) : Wm p l e R s m args below meth c nL D cA b0 cells slots Q pc lv (aI y :: aI x :: st) ad cn M := by
  subst hxy
  exact fun H locs ls hw hS hl => lv_icmp_eq C.1 C.2.1 hd.1 hd.2.1 (fun _ => kk H locs ls hw hS hl) (fun h => absurd rfl h)
theorem w_lcmpS (C : Cx l p s m args meth c cc own nL D cA b0 tab) {x y : Int} (hd : DI cc pc .lcmp 1 pc') (hxy : y = x) (kk : Wm p l e R s m args below meth c nL D cA b0 cells slots Q pc' lv (aI 0 :: st) ad cn M) : Wm p l e R s m args below meth c nL D cA b0 cells slots Q pc lv (aL y :: aL x :: st) ad cn M := by
  subst hxy
  intro H locs ls hw hS hl
  have k := kk H locs ls hw hS hl
  rw [← hd.2] at k
  refine W.lcmp C.1 C.2.1 hd.1 ?_
  have h9 : ∀ q : Int64, lg_cmp q q = Int32.ofInt 0 := fun q => by
    have e : lg_cmp q q = 0 := by simp [lg_cmp]
    exact e
  rw [h9]
  exact k
theorem w_tailF (hl : l.stackTraces = false) (C : Cx l p s m args meth c cc RL nL D cA b0 tab) {ns nt k : Nat} {v of1 of2 of3 of4 of5 : Int} {q0 q1 q2 q3 q3' q4 q5 q5' q6 q7 q8 q9 q10 q11 q12 q12' q13 q14 q15 q15' : Nat} (hcn : cn = cnB ns nt)
    (d0 : DI cc q0 (.aload_n 2) 1 q1) (d1 : DI cc q1 (.invokevirtual 140) 3 q2) (d2 : DI cc q2 (.iload 6) 2 q3) (d3 : DJ cc q3 (.if_icmp .eq of1) of1 q4 q3') (d4 : DI cc q4 (.iload 6) 2 q5) (d5 : DJ cc q5 (.ifCond .ne of2) of2 q6 q5') (d6 : DI cc q5' (.aload_n 3) 1 q7) (d7 : DI cc q7 (.iconst 0) 1 q8) (d8 : DI cc q8 .laload 1 q9) (d9 : DI cc q9 (.iload 7) 2 q10) (d10 : DJ cc q10 (.ifCond .eq of3) of3 q13 q11) (d11 : DI cc q11 (.lconst 1) 1 q12) (d12 : DJ cc q12 (.goto of4) of4 q14 q12') (d13 : DI cc q13 (.lconst 0) 1 q14) (d14 : DI cc q14 .lcmp 1 q15) (d15 : DJ cc q15 (.ifCond .eq of5) of5 q6 q15')
    (hroom : 2 ≤ R.frames ∧ 100 ≤ R.locals ∧ cells ≤ R.cells ∧ slots ≤ R.slots) (l2 : lget lv 2 = some (aO 40 0)) (l3 : lget lv 3 = some (aO 80 0)) (l6 : lget lv 6 = some (aI (k : Int))) (l7 : lget lv 7 = some (aI v)) (hk : k ≤ 9) (hth : M.1 40 0 0 = (k : Int)) (hout : k = 0 → M.2.2.1 80 0 0 = (Int32.ofInt v).toInt) (h01 : k = 0 → v = 0 ∨ v = 1)
    (kk : Wm p l e R s m args below meth c nL D cA b0 cells slots Q q6 lv [] ad cn M) : Wm p l e R s m args below meth c nL D cA b0 cells slots Q q0 lv [] ad cn M := by
  have i80 : inD cn 80 0 := by
    rw [hcn]
    exact Nat.zero_lt_one
  refine w_aload_n C d0 l2 ?_
  refine w_thrown hl C hcn d1 hroom (Nat.zero_le _) ?_
  rw [hth]
  refine w_iload C d2 l6 ?_
  refine w_icmp_eq_y C d3 (by omega) (by omega) rfl ?_
  refine w_iload C d4 l6 ?_
  refine w_if_ne C d5 (by omega) (fun h => kk) (fun h => ?_)
  have h0 := hout (by omega)
  have h1 := h01 (by omega)
  refine w_aload_n C d6 l3 ?_
  refine w_iconst C d7 ?_
  refine w_lald C d8 i80 LA_80 (by omega) ?_
  rw [show (0 : Int).toNat = 0 from rfl, h0]
  refine w_iload C d9 l7 ?_
  refine w_if_eq C d10 (by omega) (fun h => ?_) (fun h => ?_)
  · subst h
    refine w_lconst C d13 ?_
    refine w_lcmpS C d14 rfl ?_
    exact w_if_eq_y C d15 (by omega) rfl kk
  · have h2 : v = 1 := h1.resolve_left h
    subst h2
    refine w_lconst C d11 ?_
    refine w_goto C d12 ?_
    refine w_lcmpS C d14 rfl ?_
    exact w_if_eq_y C d15 (by omega) rfl kk
end Rows
theorem cnt_offR {ns nt k : Nat} (h : sdR k = false) : cnt ns nt k = 0 := by
  refine cnt_mid (sdM_iff.mp ?_)
  unfold sdR at h
  cases e : sdM k with
  | true => rfl
  | false => rw [e] at h; cases h
theorem cnJ_R {ns nt ns' nt' : Nat} : cnJ sdR (cnt ns' nt') (cnB ns nt) = cnB ns' nt' := by
  funext k
  unfold cnJ cnB sdR
  cases sdM k <;> rfl
/-- behind a turn -/
def KL (p : Program) (l : Launch) (e : Env) (R : Room) (s : State) (m : MethodId) (args : Array Value) (below : List Frame) (meth : Method) (c : Code) (D : va_G) (cA : Nat → ClassId) (b0 : Nat → Prop) (cells slots : Nat) (Q : State → Prop) (b : Nat) (i : Int) (n : Nat) : Prop :=
  ∀ (c2 s2 : Nat) (S : Sg) (P : List Pc) (nx : Nat) (ad : Ads) (M : Mem), c2 ≤ cells + 1000 → s2 ≤ slots + 12000 → LI S P nx (n + 1) → RepRoom S P nx M → RepMo S P nx M → ad 99 0 = b → Wm p l e R s m args below meth c 9 D cA b0 c2 s2 Q 2545 (lvL i) [] ad (cnB (nsS S) (ntS S)) M
