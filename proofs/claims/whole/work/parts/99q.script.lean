/-! the script: the cell b, called (99, 0), which no memory holds -/
section Rows
variable {p : Program} {l : Launch} {e : Env} {R : Room} {s : State} {m : MethodId} {args : Array Value} {below : List Frame} {meth : Method} {c : Code} {nL : Nat} {D : va_G} {cA : Nat → ClassId} {b0 : Nat → Prop} {cells slots : Nat} {Q : State → Prop} {lv : Lv} {st : List AV} {ad : Ads} {cn : Nat → Nat} {M : Mem} {cc : ByteArray} {own : String} {tab : List ExceptionTableEntry} {pc pc' : Nat}
theorem w_sld (C : Cx l p s m args meth c cc own nL D cA b0 tab) {b L : Nat} {xs : Nat → Int32} {z : Int} (hX : va_X b L xs s s.heap) (hbl : b < s.heap.size) (hbA : ¬ b0 b) (had : ad 99 0 = b) (hd : DI cc pc .iaload 1 pc') (hz : 0 ≤ z ∧ z < L) (hL : L ≤ 2147483647) (kk : Wm p l e R s m args below meth c nL D cA b0 cells slots Q pc' lv (aI (xs z.toNat).toInt :: st) ad cn M) : Wm p l e R s m args below meth c nL D cA b0 cells slots Q pc lv (aI z :: aO 99 0 :: st) ad cn M := by
  subst had
  intro H locs ls hw hS hl
  have k9 := kk H locs ls hw hS hl
  rw [← hd.2] at k9
  have ix := ix_in hz hL
  refine va_sld C.1 C.2.1 hX hbl hbA hS ix.1 hd.1 ?_
  rw [ix.2]
  have e : (Int32.ofInt (xs z.toNat).toInt) = xs z.toNat := Int32.toInt_inj.mp (e32 (by have h1 := Int32.le_toInt (xs z.toNat); have h2 := Int32.toInt_lt (xs z.toNat); omega))
  have e2 : tv ad (aI (xs z.toNat).toInt) = .int (xs z.toNat) := congrArg Value.int e
  rw [List.map_cons, e2] at k9
  exact k9
theorem w_slen (C : Cx l p s m args meth c cc own nL D cA b0 tab) {b L : Nat} {xs : Nat → Int32} (hX : va_X b L xs s s.heap) (hbl : b < s.heap.size) (hbA : ¬ b0 b) (had : ad 99 0 = b) (hd : DI cc pc .arraylength 1 pc') (kk : Wm p l e R s m args below meth c nL D cA b0 cells slots Q pc' lv (aI (L : Int) :: st) ad cn M) : Wm p l e R s m args below meth c nL D cA b0 cells slots Q pc lv (aO 99 0 :: st) ad cn M := by
  subst had
  intro H locs ls hw hS hl
  have k9 := kk H locs ls hw hS hl
  rw [← hd.2] at k9
  refine va_slen C.1 C.2.1 hX hbl hbA hS hd.1 ?_
  have e2 : tv ad (aI (L : Int)) = .int (Int32.ofNat L) := congrArg Value.int Int32.ofInt_eq_ofNat
  rw [List.map_cons, e2] at k9
  exact k9
end Rows
