/-! the end of a case: thrown() against k, the result against out[0] -/
section Rows
variable {p : Program} {l : Launch} {e : Env} {R : Room} {s : State} {m : MethodId} {args : Array Value} {below : List Frame} {meth : Method} {c : Code} {nL : Nat} {D : va_G} {cA : Nat → ClassId} {b0 : Nat → Prop} {cells slots : Nat} {Q : State → Prop} {lv : Lv} {st : List AV} {ad : Ads} {cn : Nat → Nat} {M : Mem} {cc : ByteArray} {own : String} {tab : List ExceptionTableEntry} {pc pc' : Nat}
theorem w_thrown (hl : l.stackTraces = false) (C : Cx l p s m args meth c cc RL nL D cA b0 tab) {ns nt : Nat} (hcn : cn = cnB ns nt) (hd : DI cc pc (.invokevirtual 140) 3 pc') (hroom : 2 ≤ R.frames ∧ 100 ≤ R.locals ∧ cells ≤ R.cells ∧ slots ≤ R.slots) (hwt : (st.map fun v => if cat2 v then 2 else 1).sum ≤ 8)
    (kk : Wm p l e R s m args below meth c nL D cA b0 cells slots Q pc' lv (aI (M.1 40 0 0) :: st) ad cn M) : Wm p l e R s m args below meth c nL D cA b0 cells slots Q pc lv (aO 40 0 :: st) ad cn M := by
  subst hcn
  refine w_subV sdM C (as := []) hd (apM ns nt) (cnS_M ns nt) (fun b1 => c_X7_thrown hl) mX7_thrown vX7_thrown lk_L_140 (show 0 < 1 from Nat.zero_lt_one) rfl rfl rfl rfl ⟨by omega, by omega, by omega, by omega⟩ hwt (fun r M1 hP => ?_)
  obtain ⟨rfl, rfl⟩ := hP
  rw [mJ_same]
  exact kk
theorem w_tail (hl : l.stackTraces = false) (C : Cx l p s m args meth c cc RL nL D cA b0 tab) {ns nt k : Nat} {v : Int} {q0 q1 q2 q3 q3' q4 q5 q5' q6 q7 q8 q9 q10 q11 q12 q12' : Nat} (hcn : cn = cnB ns nt)
    (d0 : DI cc q0 (.aload_n 2) 1 q1) (d1 : DI cc q1 (.invokevirtual 140) 3 q2) (d2 : DI cc q2 (.iload 6) 2 q3) (d3 : DJ cc q3 (.if_icmp .eq 5) 5 q4 q3') (d4 : DI cc q4 (.iload 6) 2 q5) (d5 : DJ cc q5 (.ifCond .ne 15) 15 q6 q5') (d6 : DI cc q5' (.aload_n 3) 1 q7) (d7 : DI cc q7 (.iconst 0) 1 q8) (d8 : DI cc q8 .laload 1 q9) (d9 : DI cc q9 (.iload 7) 2 q10) (d10 : DI cc q10 .i2l 1 q11) (d11 : DI cc q11 .lcmp 1 q12) (d12 : DJ cc q12 (.ifCond .eq 5) 5 q6 q12')
    (hroom : 2 ≤ R.frames ∧ 100 ≤ R.locals ∧ cells ≤ R.cells ∧ slots ≤ R.slots) (l2 : lget lv 2 = some (aO 40 0)) (l3 : lget lv 3 = some (aO 80 0)) (l6 : lget lv 6 = some (aI (k : Int))) (l7 : lget lv 7 = some (aI v)) (hk : k ≤ 9) (hth : M.1 40 0 0 = (k : Int)) (hout : k = 0 → M.2.2.1 80 0 0 = (Int32.ofInt v).toInt)
    (kk : Wm p l e R s m args below meth c nL D cA b0 cells slots Q q6 lv [] ad cn M) : Wm p l e R s m args below meth c nL D cA b0 cells slots Q q0 lv [] ad cn M := by
  have i80 : inD cn 80 0 := by
    rw [hcn]
    exact Nat.zero_lt_one
  refine w_aload_n C d0 l2 ?_
  refine w_thrown hl C hcn d1 hroom (Nat.zero_le _) ?_
  rw [hth]
  refine w_iload C d2 l6 ?_
  refine w_icmp_eq_y C d3 (by omega) (by omega) rfl ?_
  refine w_iload C d4 l6 ?_
  refine w_if_ne C d5 (by omega) (fun h => kk) (fun h => ?_)
  have hr := i32_rg v
  have h0 := hout (by omega)
  refine w_aload_n C d6 l3 ?_
  refine w_iconst C d7 ?_
  refine w_lald C d8 i80 LA_80 (by omega) ?_
  rw [show (0 : Int).toNat = 0 from rfl, h0]
  refine w_iload C d9 l7 ?_
  refine w_i2lA C d10 ?_
  refine w_lcmp C d11 (by omega) (by omega) ?_
  refine w_if_eq C d12 (by first | omega | (simp; done)) (fun _ => kk) (fun h9 => ?_)
  exact absurd (by simp) h9
end Rows
