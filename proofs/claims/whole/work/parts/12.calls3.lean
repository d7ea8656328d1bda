section Rows
variable {p : Program} {l : Launch} {e : Env} {R : Room} {s : State} {m : MethodId} {args : Array Value} {below : List Frame} {meth : Method} {c : Code} {nL : Nat} {D : va_G} {cA : Nat → ClassId} {b0 : Nat → Prop} {cells slots : Nat} {Q : State → Prop} {lv : Lv} {st : List AV} {ad : Ads} {cn : Nat → Nat} {M : Mem} {cc : ByteArray} {own : String} {tab : List ExceptionTableEntry} {pc pc' : Nat}
theorem Wm.top {v v' : AV} (h : v = v') (kk : Wm p l e R s m args below meth c nL D cA b0 cells slots Q pc lv (v' :: st) ad cn M) : Wm p l e R s m args below meth c nL D cA b0 cells slots Q pc lv (v :: st) ad cn M := by rw [h]; exact kk
theorem Wm.eqM {M' : Mem} (h : M = M') (kk : Wm p l e R s m args below meth c nL D cA b0 cells slots Q pc lv st ad cn M') : Wm p l e R s m args below meth c nL D cA b0 cells slots Q pc lv st ad cn M := by rw [h]; exact kk
theorem w_callV (C : Cx l p s m args meth c cc own nL D cA b0 []) {P0 P : PT} {X0 X : PX} {mc ms : Nat} {y : MethodName} {bytes : ByteArray} {maxL n d mc0 ms0 idx k i ci N : Nat} {ret : Option FieldType} {as stk : List AV} {fs : List Value} {T : u_T} (hd : DI cc pc (.invokevirtual idx) 3 pc') (hcon : Con l b0 y bytes maxL ret d mc0 ms0 (aO k i :: as) ad cn M P0 X0) (hm : MOK y bytes maxL ret n) (hv : VOK y) (hk : Cond.methodLink own idx y ∈ GW) (hin : inD cn k i) (he : cM cA ad M k i = .inr (ci, fs)) (hc : clT[ci]? = some (y.cls, T, N))
    (hst : stk = as.reverse ++ aO k i :: st) (hn : as.length = n) (hroom : d + 1 ≤ R.frames ∧ 8 + (maxL + 11) + 40 * d ≤ R.locals ∧ cells + mc0 ≤ R.cells ∧ slots + ms0 ≤ R.slots) (hwt : (st.map fun v => if cat2 v then 2 else 1).sum ≤ 8) (hX : ∀ (E : String) (M' : Mem), X0 E M' → X E M') (hcl : cells + mc0 ≤ mc ∧ slots + ms0 ≤ ms)
    (kk : ∀ (r : Option AV) (M' : Mem), P0 r M' → Wm p l e R s m args below meth c nL D cA b0 (cells + mc0) (slots + ms0) (vx_MQ below (mQ D cA b0 ad cn P) (mX D cA b0 ad cn X) args s mc ms b0) pc' lv (r.toList ++ st) ad cn M') : Wm p l e R s m args below meth c nL D cA b0 cells slots (vx_MQ below (mQ D cA b0 ad cn P) (mX D cA b0 ad cn X) args s mc ms b0) pc lv stk ad cn M :=
  w_callV0 C hd hcon hm hv hk hin he hc hst hn hroom hwt (fun E M' h => x_out C (hX E M' h) hcl.1 hcl.2) kk
theorem w_callS (C : Cx l p s m args meth c cc own nL D cA b0 []) {P0 P : PT} {X0 X : PX} {mc ms : Nat} {y : MethodName} {bytes : ByteArray} {maxL n d mc0 ms0 idx : Nat} {ret : Option FieldType} {as stk : List AV} (hd : DI cc pc (.invokestatic idx) 3 pc') (hcon : Con l b0 y bytes maxL ret d mc0 ms0 as ad cn M P0 X0) (hm : MOK y bytes maxL ret n) (hv : Cond.static y ∈ GW) (hk : Cond.methodLink own idx y ∈ GW)
    (hst : stk = as.reverse ++ st) (hn : as.length = n) (hroom : d + 1 ≤ R.frames ∧ 8 + (maxL + 11) + 40 * d ≤ R.locals ∧ cells + mc0 ≤ R.cells ∧ slots + ms0 ≤ R.slots) (hwt : (st.map fun v => if cat2 v then 2 else 1).sum ≤ 8) (hX : ∀ (E : String) (M' : Mem), X0 E M' → X E M') (hcl : cells + mc0 ≤ mc ∧ slots + ms0 ≤ ms)
    (kk : ∀ (r : Option AV) (M' : Mem), P0 r M' → Wm p l e R s m args below meth c nL D cA b0 (cells + mc0) (slots + ms0) (vx_MQ below (mQ D cA b0 ad cn P) (mX D cA b0 ad cn X) args s mc ms b0) pc' lv (r.toList ++ st) ad cn M') : Wm p l e R s m args below meth c nL D cA b0 cells slots (vx_MQ below (mQ D cA b0 ad cn P) (mX D cA b0 ad cn X) args s mc ms b0) pc lv stk ad cn M :=
  w_callS0 C hd hcon hm hv hk hst hn hroom hwt (fun E M' h => x_out C (hX E M' h) hcl.1 hcl.2) kk
theorem w_callN (C : Cx l p s m args meth c cc own nL D cA b0 []) {P0 P : PT} {X0 X : PX} {mc ms : Nat} {y : MethodName} {bytes : ByteArray} {maxL n d mc0 ms0 idx : Nat} {host : String} {ret : Option FieldType} {as stk : List AV} (hd : DI cc pc (.invokestatic idx) 3 pc') (hcon : Con l b0 y bytes maxL ret d mc0 ms0 as ad cn M P0 X0) (hm : MOK y bytes maxL ret n) (hv : Cond.static y ∈ GW) (hk : (own, idx, y, host) ∈ nestL)
    (hst : stk = as.reverse ++ st) (hn : as.length = n) (hroom : d + 1 ≤ R.frames ∧ 8 + (maxL + 11) + 40 * d ≤ R.locals ∧ cells + mc0 ≤ R.cells ∧ slots + ms0 ≤ R.slots) (hwt : (st.map fun v => if cat2 v then 2 else 1).sum ≤ 8) (hX : ∀ (E : String) (M' : Mem), X0 E M' → X E M') (hcl : cells + mc0 ≤ mc ∧ slots + ms0 ≤ ms)
    (kk : ∀ (r : Option AV) (M' : Mem), P0 r M' → Wm p l e R s m args below meth c nL D cA b0 (cells + mc0) (slots + ms0) (vx_MQ below (mQ D cA b0 ad cn P) (mX D cA b0 ad cn X) args s mc ms b0) pc' lv (r.toList ++ st) ad cn M') : Wm p l e R s m args below meth c nL D cA b0 cells slots (vx_MQ below (mQ D cA b0 ad cn P) (mX D cA b0 ad cn X) args s mc ms b0) pc lv stk ad cn M :=
  w_callN0 C hd hcon hm hv hk hst hn hroom hwt (fun E M' h => x_out C (hX E M' h) hcl.1 hcl.2) kk
theorem pl_X0 : plainName RX0 = true := by decide +kernel
theorem pl_X1 : plainName RX1 = true := by decide +kernel
theorem pl_X2 : plainName RX2 = true := by decide +kernel
theorem pl_X3 : plainName RX3 = true := by decide +kernel
theorem pl_X4 : plainName RX4 = true := by decide +kernel
theorem pl_X5 : plainName RX5 = true := by decide +kernel
theorem pl_X6 : plainName RX6 = true := by decide +kernel
theorem pl_X7 : plainName RX7 = true := by decide +kernel
theorem pl_L : plainName RL = true := by decide +kernel
theorem pl_J7 : plainName RJ7 = true := by decide +kernel
end Rows
