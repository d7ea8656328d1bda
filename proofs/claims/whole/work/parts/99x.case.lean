/-! the cases of the law: density, meanCells -/
section Fl
variable {p : Program} {l : Launch} {e : Env} {R : Room} {s : State} {m : MethodId} {args : Array Value} {below : List Frame} {meth : Method} {c : Code} {H : Heap} {locs : List Loc} {cells slots : Nat} {Q : State → Prop}
theorem W_dcmpE {cc : ByteArray} (hexec : p.tables.exec = Jvm.exec) (hb : c.code = cc) {x : UInt64} (hx : FP.dcmp x x = some .eq) {pc : Nat} {ls : Array Slot} {rest : List Value} (hdg : decode cc pc = .ok (.dcmp .l, 1))
    (k : W p l e R s m args below meth c H locs cells slots Q (F0 m (pc + 1) ls (.int 0 :: rest))) : W p l e R s m args below meth c H locs cells slots Q (F0 m pc ls (.double x :: .double x :: rest)) := by
  intro T hT X
  obtain ⟨t, a, b⟩ := k T hT X
  refine ⟨t, ?_, b⟩
  jvm_step X.here [X.here.top, hexec, hb, hdg, hx]
  exact a
end Fl
section Rows
variable {p : Program} {l : Launch} {e : Env} {R : Room} {s : State} {m : MethodId} {args : Array Value} {below : List Frame} {meth : Method} {c : Code} {nL : Nat} {D : va_G} {cA : Nat → ClassId} {b0 : Nat → Prop} {cells slots : Nat} {Q : State → Prop} {lv : Lv} {st : List AV} {ad : Ads} {cn : Nat → Nat} {M : Mem} {cc : ByteArray} {own : String} {tab : List ExceptionTableEntry} {pc pc' : Nat}
theorem w_dcmpE (C : Cx l p s m args meth c cc own nL D cA b0 tab) {x : UInt64} (hd : DI cc pc (.dcmp .l) 1 pc') (hx : FP.dcmp x x = some .eq) (kk : Wm p l e R s m args below meth c nL D cA b0 cells slots Q pc' lv (aI 0 :: st) ad cn M) : Wm p l e R s m args below meth c nL D cA b0 cells slots Q pc lv (aD x :: aD x :: st) ad cn M := fun H locs ls hw hS hl =>
  W_dcmpE C.1 C.2.1 hx hd.1 (by have k := kk H locs ls hw hS hl; rw [← hd.2] at k; exact k)
theorem Con.post {l : Launch} {b0 : Nat → Prop} {y : MethodName} {cc : ByteArray} {nL d mc ms : Nat} {ret : Option FieldType} {as : List AV} {ad : Ads} {cn : Nat → Nat} {M : Mem} {P P' : PT} {X : PX} (h : Con l b0 y cc nL ret d mc ms as ad cn M P X) (hP : ∀ r M', P r M' → P' r M') : Con l b0 y cc nL ret d mc ms as ad cn M P' X := fun D cA =>
  MetFree.mono (h D cA) (fun _ _ q => q) (fun _ _ _ _ _ q => q) (fun a s o s' _ hq => by
    rcases hq with ⟨⟨r, M1, h1, h2, h3⟩, hL⟩ | hT
    · exact Or.inl ⟨⟨r, M1, h1, hP _ _ h2, h3⟩, hL⟩
    · exact Or.inr hT)
theorem uD_at (M : Mem) (v : UInt64) : (uD M 81 0 0 v).2.2.2 81 0 0 = v := by
  exact (if_pos ⟨rfl, rfl, rfl⟩ : (if (81 : Nat) = 81 ∧ (0 : Nat) = 0 ∧ (0 : Nat) = 0 then v else M.2.2.2 81 0 0) = v)
end Rows
section Cs
variable {p : Program} {l : Launch} {e : Env} {R : Room} {s : State} {m : MethodId} {args : Array Value} {below : List Frame} {meth : Method} {c : Code} {D : va_G} {cA : Nat → ClassId} {b0 : Nat → Prop} {cells slots : Nat} {Q : State → Prop} {ad : Ads} {M : Mem} {tab : List ExceptionTableEntry}
theorem k_densityW (hl : l.stackTraces = false) (C : Cx l p s m args meth c cL_law RL 9 D cA b0 tab) {b L : Nat} {xs : Nat → Int32} (hX : va_X b L xs s s.heap) (hbl : b < s.heap.size) (hbA : ¬ b0 b) (had : ad 99 0 = b) (hL : L ≤ 2147483647) {S : Sg} {P : List Pc} {nx n : Nat} {i : Int} (hI : LI S P nx n) (hn : n < 600) (hR : RepRoom S P nx M) (hM : RepMo S P nx M) (hi : 0 ≤ i ∧ i + 5 < L) (hroom : 40 ≤ R.frames ∧ 4000 ≤ R.locals ∧ cells + 1000 ≤ R.cells ∧ slots + 12000 ≤ R.slots)
    (kk : KL p l e R s m args below meth c D cA b0 cells slots Q b i n) : Wm p l e R s m args below meth c 9 D cA b0 cells slots Q 2401 (lvL i) [] ad (cnB (nsS S) (ntS S)) M := by
  have i40 : inD (cnB (nsS S) (ntS S)) 40 0 := Nat.zero_lt_one
  have i0 : inD (cnB (nsS S) (ntS S)) 0 0 := Nat.zero_lt_one
  have hnx : nx < 1000000 := by have := hI.2.2.2.1; omega
  have hmd : ∀ y, mdS S y < 1000000 := fun y => by have := hI.2.2.2.2 y; omega
  have hu := used_le (S := S) hI.1.1 hI.1.2.2.1
  have har := area_bd (P := P) hI.1.1
  by_cases h0 : P.length = 0
  · refine w_aload_n C dL_law_2401 rfl ?_
    refine w_aload C dL_law_2402 rfl ?_
    refine w_subS sdR C (as := [aO 0 0, aO 81 0]) dL_law_2404 (apR _ _) (cnS_R _ _) (fun b1 => h_density (n9 := P.length) (v := dnF 0 1) hl (f2d_no (dnF_no (by decide) (by decide) (by decide))) (Con.post (c_X6_density hl hI.1 hI.2.2.1 (Nat.le_refl _) hR) (fun r M' h => absurd h0 h.2.1))) mhL_density sL_density lk_L_268 rfl rfl ⟨by omega, by omega, by omega, by omega⟩ (Nat.le_of_ble_eq_true rfl) (fun r M1 hp => ?_)
    rcases hp with ⟨-, rfl, rfl⟩ | ⟨h9, -⟩
    rotate_left
    · exact absurd h0 h9
    rw [mJ_same]
    have hM1 := hM
    have hRN := hR
    refine w_istore C dL_law_2407 (by decide) ?_
    refine w_aload_n C dL_law_2409 rfl ?_
    refine w_subV sdM C (as := []) dL_law_2410 (apM _ _) (cnS_M _ _) (fun b1 => c_X7_density hl hI.1 hI.2.2.1 hnx hM1) mX7_density vX7_density lk_L_271 i40 rfl rfl rfl rfl ⟨by omega, by omega, by omega, by omega⟩ (Nat.le_of_ble_eq_true rfl) (fun r M2 hp2 => ?_)
    obtain ⟨hM2, hth, v, rfl, hv⟩ := hp2
    rw [if_pos h0] at hth
    refine w_fstore C dL_law_2413 (by decide) ?_
    refine w_aload_n C dL_law_2415 rfl ?_
    refine w_thrown hl C rfl dL_law_2416 ⟨by omega, by omega, by omega, by omega⟩ (Nat.zero_le _) ?_
    have hth2 := (congrFun (mJ_on (sd := sdM) (M' := M2) (M := M1) (k := 40) (i := 0) rfl).1 0).trans hth
    rw [hth2]
    refine w_iload C dL_law_2419 rfl ?_
    refine w_icmp_eq_y C dL_law_2421 (by omega) (by omega) rfl ?_
    refine w_iload C dL_law_2426 rfl ?_
    refine w_if_ne C dL_law_2428 (by omega) (fun _ => ?_) (fun h => absurd (by decide) h)
    refine w_goto C dL_law_2464 ?_
    exact Wm.lsub (lv' := lvL i) ⟨rfl, rfl, rfl, rfl, rfl, rfl, trivial⟩ (kk _ _ _ _ _ _ _ (by omega) (by omega) hI.up (hRN.side hI.1.2.2.1 mJ_M) (hM2.side mJ_M') had)
  · have hP0 : P ≠ [] := fun z => h0 (by rw [z]; rfl)
    have hv9 : vf_n64 (FP.f2d (dnF (usedS S P) (lenR S P * colsS S))) := f2d_no (dnF_no hu (by omega) (Nat.mul_ne_zero (by have := len_pos hI.1 hI.2.2.1 hP0; omega) (by have := cols_pos hI.1.1; omega)))
    refine w_aload_n C dL_law_2401 rfl ?_
    refine w_aload C dL_law_2402 rfl ?_
    refine w_subS sdR C (as := [aO 0 0, aO 81 0]) dL_law_2404 (apR _ _) (cnS_R _ _) (fun b1 => h_density (n9 := P.length) (v := dnF (usedS S P) (lenR S P * colsS S)) hl hv9 (c_X6_density hl hI.1 hI.2.2.1 (Nat.le_refl _) hR)) mhL_density sL_density lk_L_268 rfl rfl ⟨by omega, by omega, by omega, by omega⟩ (Nat.le_of_ble_eq_true rfl) (fun r M1 hp => ?_)
    rcases hp with ⟨h9, -⟩ | ⟨-, rfl, rfl⟩
    · exact absurd h9 h0
    have hM1 : RepMo S P nx (mJ sdR (uD M 81 0 0 (FP.f2d (dnF (usedS S P) (lenR S P * colsS S)))) M) := hM.side mJ_R
    have hRN : RepRoom S P nx (mJ sdR (uD M 81 0 0 (FP.f2d (dnF (usedS S P) (lenR S P * colsS S)))) M) := hR.o81.side hI.1.2.2.1 mJ_R'
    have ho : (mJ sdR (uD M 81 0 0 (FP.f2d (dnF (usedS S P) (lenR S P * colsS S)))) M).2.2.2 81 0 0 = (FP.f2d (dnF (usedS S P) (lenR S P * colsS S))) := (congrFun (mJ_on (sd := sdR) (M' := uD M 81 0 0 (FP.f2d (dnF (usedS S P) (lenR S P * colsS S)))) (M := M) (k := 81) (i := 0) rfl).2.2.2 0).trans (uD_at M (FP.f2d (dnF (usedS S P) (lenR S P * colsS S))))
    obtain ⟨M3, hM3⟩ : ∃ M3, mJ sdR (uD M 81 0 0 (FP.f2d (dnF (usedS S P) (lenR S P * colsS S)))) M = M3 := ⟨_, rfl⟩
    rw [hM3] at hM1 hRN ho ⊢
    refine w_istore C dL_law_2407 (by decide) ?_
    refine w_aload_n C dL_law_2409 rfl ?_
    refine w_subV sdM C (as := []) dL_law_2410 (apM _ _) (cnS_M _ _) (fun b1 => c_X7_density hl hI.1 hI.2.2.1 hnx hM1) mX7_density vX7_density lk_L_271 i40 rfl rfl rfl rfl ⟨by omega, by omega, by omega, by omega⟩ (Nat.le_of_ble_eq_true rfl) (fun r M2 hp2 => ?_)
    obtain ⟨hM2, hth, v, rfl, hv⟩ := hp2
    have hv8 := hv h0
    subst hv8
    rw [if_neg h0] at hth
    refine w_fstore C dL_law_2413 (by decide) ?_
    refine w_aload_n C dL_law_2415 rfl ?_
    refine w_thrown hl C rfl dL_law_2416 ⟨by omega, by omega, by omega, by omega⟩ (Nat.zero_le _) ?_
    have hth2 := (congrFun (mJ_on (sd := sdM) (M' := M2) (M := M3) (k := 40) (i := 0) rfl).1 0).trans hth
    rw [hth2]
    have ho2 : (mJ sdM M2 M3).2.2.2 81 0 0 = (FP.f2d (dnF (usedS S P) (lenR S P * colsS S))) := (congrFun (mJ_off (sd := sdM) (M' := M2) (M := M3) (k := 81) (i := 0) (by decide)).2.2.2 0).trans ho
    refine w_iload C dL_law_2419 rfl ?_
    refine w_icmp_eq_y C dL_law_2421 (by omega) (by omega) rfl ?_
    refine w_iload C dL_law_2426 rfl ?_
    refine w_if_ne C dL_law_2428 (by omega) (fun h => absurd rfl h) (fun _ => ?_)
    refine w_aload C dL_law_2431 rfl ?_
    refine w_iconst C dL_law_2433 ?_
    refine w_dald C dL_law_2434 (show 0 < 1 from Nat.zero_lt_one) DA_81 (by omega) ?_
    rw [show (0 : Int).toNat = 0 from rfl, ho2]
    refine w_fload C dL_law_2435 rfl ?_
    refine w_f2d C dL_law_2437 hv9 ?_
    refine w_dcmpE C dL_law_2438 (dcmp_self hv9) ?_
    refine w_if_eq_y C dL_law_2439 (by omega) rfl ?_
    refine w_goto C dL_law_2464 ?_
    exact Wm.lsub (lv' := lvL i) ⟨rfl, rfl, rfl, rfl, rfl, rfl, trivial⟩ (kk _ _ _ _ _ _ _ (by omega) (by omega) hI.up (hRN.side hI.1.2.2.1 mJ_M) (hM2.side mJ_M') had)
theorem k_meanCellsW (hl : l.stackTraces = false) (C : Cx l p s m args meth c cL_law RL 9 D cA b0 tab) {b L : Nat} {xs : Nat → Int32} (hX : va_X b L xs s s.heap) (hbl : b < s.heap.size) (hbA : ¬ b0 b) (had : ad 99 0 = b) (hL : L ≤ 2147483647) {S : Sg} {P : List Pc} {nx n : Nat} {i : Int} (hI : LI S P nx n) (hn : n < 600) (hR : RepRoom S P nx M) (hM : RepMo S P nx M) (hi : 0 ≤ i ∧ i + 5 < L) (hroom : 40 ≤ R.frames ∧ 4000 ≤ R.locals ∧ cells + 1000 ≤ R.cells ∧ slots + 12000 ≤ R.slots)
    (kk : KL p l e R s m args below meth c D cA b0 cells slots Q b i n) : Wm p l e R s m args below meth c 9 D cA b0 cells slots Q 2467 (lvL i) [] ad (cnB (nsS S) (ntS S)) M := by
  have i40 : inD (cnB (nsS S) (ntS S)) 40 0 := Nat.zero_lt_one
  have i0 : inD (cnB (nsS S) (ntS S)) 0 0 := Nat.zero_lt_one
  have hnx : nx < 1000000 := by have := hI.2.2.2.1; omega
  have hmd : ∀ y, mdS S y < 1000000 := fun y => by have := hI.2.2.2.2 y; omega
  have hu := used_le (S := S) hI.1.1 hI.1.2.2.1
  by_cases h0 : P.length = 0
  · refine w_aload_n C dL_law_2467 rfl ?_
    refine w_aload C dL_law_2468 rfl ?_
    refine w_subS sdR C (as := [aO 0 0, aO 81 0]) dL_law_2470 (apR _ _) (cnS_R _ _) (fun b1 => h_meanCells (n9 := P.length) (v := mnD 0 1) hl (Con.post (c_X6_meanCells hl hI.1 (Nat.le_refl _) hR) (fun r M' h => absurd h0 h.2.1))) mhL_meanCells sL_meanCells lk_L_272 rfl rfl ⟨by omega, by omega, by omega, by omega⟩ (Nat.le_of_ble_eq_true rfl) (fun r M1 hp => ?_)
    rcases hp with ⟨-, rfl, rfl⟩ | ⟨h9, -⟩
    rotate_left
    · exact absurd h0 h9
    rw [mJ_same]
    have hM1 := hM
    have hRN := hR
    refine w_istore C dL_law_2473 (by decide) ?_
    refine w_aload_n C dL_law_2475 rfl ?_
    refine w_subV sdM C (as := []) dL_law_2476 (apM _ _) (cnS_M _ _) (fun b1 => c_X7_meanCells hl hI.1 hM1) mX7_meanCells vX7_meanCells lk_L_274 i40 rfl rfl rfl rfl ⟨by omega, by omega, by omega, by omega⟩ (Nat.le_of_ble_eq_true rfl) (fun r M2 hp2 => ?_)
    obtain ⟨hM2, hth, v, rfl, hv⟩ := hp2
    rw [if_pos h0] at hth
    refine w_dstore C dL_law_2479 (by decide) ?_
    refine w_aload_n C dL_law_2481 rfl ?_
    refine w_thrown hl C rfl dL_law_2482 ⟨by omega, by omega, by omega, by omega⟩ (Nat.zero_le _) ?_
    have hth2 := (congrFun (mJ_on (sd := sdM) (M' := M2) (M := M1) (k := 40) (i := 0) rfl).1 0).trans hth
    rw [hth2]
    refine w_iload C dL_law_2485 rfl ?_
    refine w_icmp_eq_y C dL_law_2487 (by omega) (by omega) rfl ?_
    refine w_iload C dL_law_2492 rfl ?_
    refine w_if_ne C dL_law_2494 (by omega) (fun _ => ?_) (fun h => absurd (by decide) h)
    refine w_goto C dL_law_2529 ?_
    exact Wm.lsub (lv' := lvL i) ⟨rfl, rfl, rfl, rfl, rfl, rfl, trivial⟩ (kk _ _ _ _ _ _ _ (by omega) (by omega) hI.up (hRN.side hI.1.2.2.1 mJ_M) (hM2.side mJ_M') had)
  · have hP0 : P ≠ [] := fun z => h0 (by rw [z]; rfl)
    have hv9 : vf_n64 (mnD (usedS S P) P.length) := mnD_no hu (by have := hI.1.2.2.1; omega) h0
    refine w_aload_n C dL_law_2467 rfl ?_
    refine w_aload C dL_law_2468 rfl ?_
    refine w_subS sdR C (as := [aO 0 0, aO 81 0]) dL_law_2470 (apR _ _) (cnS_R _ _) (fun b1 => h_meanCells (n9 := P.length) (v := mnD (usedS S P) P.length) hl (c_X6_meanCells hl hI.1 (Nat.le_refl _) hR)) mhL_meanCells sL_meanCells lk_L_272 rfl rfl ⟨by omega, by omega, by omega, by omega⟩ (Nat.le_of_ble_eq_true rfl) (fun r M1 hp => ?_)
    rcases hp with ⟨h9, -⟩ | ⟨-, rfl, rfl⟩
    · exact absurd h9 h0
    have hM1 : RepMo S P nx (mJ sdR (uD M 81 0 0 (mnD (usedS S P) P.length)) M) := hM.side mJ_R
    have hRN : RepRoom S P nx (mJ sdR (uD M 81 0 0 (mnD (usedS S P) P.length)) M) := hR.o81.side hI.1.2.2.1 mJ_R'
    have ho : (mJ sdR (uD M 81 0 0 (mnD (usedS S P) P.length)) M).2.2.2 81 0 0 = (mnD (usedS S P) P.length) := (congrFun (mJ_on (sd := sdR) (M' := uD M 81 0 0 (mnD (usedS S P) P.length)) (M := M) (k := 81) (i := 0) rfl).2.2.2 0).trans (uD_at M (mnD (usedS S P) P.length))
    obtain ⟨M3, hM3⟩ : ∃ M3, mJ sdR (uD M 81 0 0 (mnD (usedS S P) P.length)) M = M3 := ⟨_, rfl⟩
    rw [hM3] at hM1 hRN ho ⊢
    refine w_istore C dL_law_2473 (by decide) ?_
    refine w_aload_n C dL_law_2475 rfl ?_
    refine w_subV sdM C (as := []) dL_law_2476 (apM _ _) (cnS_M _ _) (fun b1 => c_X7_meanCells hl hI.1 hM1) mX7_meanCells vX7_meanCells lk_L_274 i40 rfl rfl rfl rfl ⟨by omega, by omega, by omega, by omega⟩ (Nat.le_of_ble_eq_true rfl) (fun r M2 hp2 => ?_)
    obtain ⟨hM2, hth, v, rfl, hv⟩ := hp2
    have hv8 := hv h0
    subst hv8
    rw [if_neg h0] at hth
    refine w_dstore C dL_law_2479 (by decide) ?_
    refine w_aload_n C dL_law_2481 rfl ?_
    refine w_thrown hl C rfl dL_law_2482 ⟨by omega, by omega, by omega, by omega⟩ (Nat.zero_le _) ?_
    have hth2 := (congrFun (mJ_on (sd := sdM) (M' := M2) (M := M3) (k := 40) (i := 0) rfl).1 0).trans hth
    rw [hth2]
    have ho2 : (mJ sdM M2 M3).2.2.2 81 0 0 = (mnD (usedS S P) P.length) := (congrFun (mJ_off (sd := sdM) (M' := M2) (M := M3) (k := 81) (i := 0) (by decide)).2.2.2 0).trans ho
    refine w_iload C dL_law_2485 rfl ?_
    refine w_icmp_eq_y C dL_law_2487 (by omega) (by omega) rfl ?_
    refine w_iload C dL_law_2492 rfl ?_
    refine w_if_ne C dL_law_2494 (by omega) (fun h => absurd rfl h) (fun _ => ?_)
    refine w_aload C dL_law_2497 rfl ?_
    refine w_iconst C dL_law_2499 ?_
    refine w_dald C dL_law_2500 (show 0 < 1 from Nat.zero_lt_one) DA_81 (by omega) ?_
    rw [show (0 : Int).toNat = 0 from rfl, ho2]
    refine w_dload C dL_law_2501 rfl ?_
    refine w_dcmpE C dL_law_2503 (dcmp_self hv9) ?_
    refine w_if_eq_y C dL_law_2504 (by omega) rfl ?_
    refine w_goto C dL_law_2529 ?_
    exact Wm.lsub (lv' := lvL i) ⟨rfl, rfl, rfl, rfl, rfl, rfl, trivial⟩ (kk _ _ _ _ _ _ _ (by omega) (by omega) hI.up (hRN.side hI.1.2.2.1 mJ_M) (hM2.side mJ_M') had)
end Cs
