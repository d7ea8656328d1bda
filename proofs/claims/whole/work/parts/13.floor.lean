section Rows
variable {p : Program} {l : Launch} {e : Env} {R : Room} {s : State} {m : MethodId} {args : Array Value} {below : List Frame} {meth : Method} {c : Code} {nL : Nat} {D : va_G} {cA : Nat → ClassId} {b0 cells slots : Nat} {Q : State → Prop} {lv : Lv} {st : List AV} {ad : Ads} {ns nt : Nat} {M : Mem} {cc : ByteArray} {own : String} {tab : List ExceptionTableEntry} {pc pc' : Nat}
theorem w_floorMod (C : Cx l p s m args meth c cc RX0 nL D cA b0 tab) (hd : DI cc pc (.invokestatic 29) 3 pc') {x y : Int} (hx : -2147483648 ≤ x ∧ x ≤ 2147483647) (hy : 0 < y ∧ y ≤ 1000) (hroom : 1 ≤ R.frames ∧ 40 ≤ R.locals) (hwt : (st.map fun v => if cat2 v then 2 else 1).sum ≤ 8)
    (kk : Wm p l e R s m args below meth c nL D cA b0 cells slots Q pc' lv (aI (x % y) :: st) ad ns nt M) : Wm p l e R s m args below meth c nL D cA b0 cells slots Q pc lv (aI y :: aI x :: st) ad ns nt M := by
  sorry
end Rows
