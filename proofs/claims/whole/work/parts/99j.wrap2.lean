/-! the wrappers of addShape, addStyle, density, meanCells -/
def ConHN (l : Launch) (b0 : Nat → Prop) (y : MethodName) (cc : ByteArray) (nL : Nat) (ret : Option FieldType) (hh : List (Nat × Nat × Nat × Nat)) (d mc ms : Nat) (as : List AV) (ad : Ads) (cn : Nat → Nat) (M : Mem) (P : PN) : Prop :=
  ∀ (D : va_G) (cA : Nat → ClassId), vx_Met l y (.codeWith y cc nL ret hh :: GW) (rmd d mc ms) (va_Pc (as.map (tv ad)) (fun U => HW D cA b0 ad cn M U.heap ∧ EV D cA b0 U)) (mQN D cA b0 P) (mX D cA b0 ad cn (fun _ _ => False)) mc ms b0
section Rows
variable {p : Program} {l : Launch} {e : Env} {R : Room} {s : State} {m : MethodId} {args : Array Value} {below : List Frame} {meth : Method} {c : Code} {nL : Nat} {D : va_G} {cA : Nat → ClassId} {b0 : Nat → Prop} {cells slots : Nat} {Q : State → Prop} {lv : Lv} {st : List AV} {ad : Ads} {cn : Nat → Nat} {M : Mem} {cc : ByteArray} {own : String} {tab : List ExceptionTableEntry} {pc pc' : Nat}
theorem ConHN.of {y : MethodName} {nLx d mc ms : Nat} {ret : Option FieldType} {hh : List (Nat × Nat × Nat × Nat)} {as : List AV} {P : PN} (hl : l.stackTraces = false) (hpl : plainName y.cls = true) (hlen : (as.map fun v => if cat2 v then 2 else 1).sum ≤ nLx)
    (body : ∀ (D : va_G) (cA : Nat → ClassId) (p : Program) (e : Env) (s : State) (m : MethodId) (args : Array Value) (below : List Frame) (meth : Method) (c : Code), Cx l p s m args meth c cc y.cls nLx D cA b0 (tableOf hh) → meth.sig.returnType = ret →
      Wm p l e (rmd d mc ms) s m args below meth c nLx D cA b0 0 0 (vx_MQ below (mQN D cA b0 P) (mX D cA b0 ad cn (fun _ _ => False)) args s mc ms b0) 0 (avargs 0 as) [] ad cn M) : ConHN l b0 y cc nLx ret hh d mc ms as ad cn M P := by
  intro D cA
  refine vx_ofWH (cc := cc) (maxL := nLx) (ret := ret) (hh := hh) hpl rfl ?_
  intro p e s m args below meth c s₁ B hml hv
  obtain ⟨rfl, hw, hev⟩ := hv
  have hts := atoms_spec (ws := .codeWith y cc nLx ret hh :: GW) B.pre
  have hown : s.vm.findClass y.cls = some m.cls := findClass_of_methodNamed B.named
  have htab : c.exceptionTable.toList = tableOf hh := vx_table (x := y) B (hts _ List.mem_cons_self)
  have C : Cx l p s m (as.map (tv ad)).toArray meth c cc y.cls nLx D cA b0 (tableOf hh) := ⟨B.exec, B.bytes, hml, hown, fun w h => hts w (List.mem_cons_of_mem _ h), B.notSynchronized, hl, hev, htab⟩
  have k := body D cA p e s m _ below meth c C B.returns
  have hent := lv_entry (as.map (tv ad)) (n := nLx) (by rw [sl_len]; exact hlen)
  rw [avargs_lv] at hent
  rw [lg_entry_eq]
  exact k s.heap [] _ hw va_S.rf hent
theorem w_callVN (C : Cx l p s m args meth c cc own nL D cA b0 tab) {y : MethodName} {bytes : ByteArray} {maxL n d mc ms idx k i ci N : Nat} {ret : Option FieldType} {P : PN} {X : PX} {ks : List Nat} {as stk : List AV} {fs : List Value} {T : u_T} (hd : DI cc pc (.invokevirtual idx) 3 pc') (hcon : ConN l b0 y bytes maxL ret d mc ms (aO k i :: as) ad cn M P X) (hm : MOK y bytes maxL ret n) (hv : VOK y) (hk : Cond.methodLink own idx y ∈ GW) (hin : inD cn k i) (he : cM cA ad M k i = .inr (ci, fs)) (hc : clT[ci]? = some (y.cls, T, N))
    (hst : stk = as.reverse ++ aO k i :: st) (hn : as.length = n) (hroom : d + 1 ≤ R.frames ∧ 8 + (maxL + 11) + 40 * d ≤ R.locals ∧ cells + mc ≤ R.cells ∧ slots + ms ≤ R.slots) (hwt : (st.map fun v => if cat2 v then 2 else 1).sum ≤ 8) (hnk : nkl ks lv st = true) (hP : ∀ r' ad' cn' M', P r' ad' cn' M' → ∀ k' i', k' ∉ ks → ad' k' i' = ad k' i')
    (kx : ∀ (E : String) (M' : Mem), X E M' → Xm p l e R s m args below meth c nL D cA b0 (cells + mc) (slots + ms) Q pc lv st ad cn M' E) (kk : ∀ (r : Option AV) (ad' : Ads) (cn' : Nat → Nat) (M' : Mem), P r ad' cn' M' → Wm p l e R s m args below meth c nL D cA b0 (cells + mc) (slots + ms) Q pc' lv (r.toList ++ st) ad' cn' M') : Wm p l e R s m args below meth c nL D cA b0 cells slots Q pc lv stk ad cn M := by
  intro H locs ls hw hS hl
  obtain ⟨q0, hq⟩ := wsM_get (hb := hw.2.2.2.1) (cA := cA) (ad := ad) (M := M) hin
  have hrecv := va_recv C.2.2.2.2.2.2.2.1.1 (HW_P hw) hc (cM_of hq he)
  have hN : ∀ sig, parseMethodDescriptor y.desc = some sig → n = sig.parameters.length := fun sig h => by
    have h2 := hm.2.2.2
    rw [h] at h2
    exact (Option.some.inj h2).symm
  refine my_callN (rest := st.map (tv ad)) (vx_runV (C := y.cls) (n := n) (As := as.map (tv ad)) (b := ad k i) (rest := st.map (tv ad)) ⟨C.1, C.2.1, C.2.2.1, C.2.2.2.1, C.2.2.2.2.1⟩ (hcon D cA) ⟨⟨rfl, rfl, hroom.1, hroom.2.1, ws_good hm.2.1 C.2.2.2.2.1, List.mem_cons_self, C.2.2.2.2.1 _ hm.2.1, C.2.2.2.2.1 _ hm.1, hm.2.2.1, hN, C.2.2.2.2.1 _ hk⟩, C.2.2.2.2.1 _ hv.1, C.2.2.2.2.1 _ hv.2⟩ ⟨con_blind, hrecv, fun U hU hW => ⟨rfl, by rw [hU]; exact hw, EV.warm hW (by rw [hU]; exact hS) C.2.2.2.2.2.2.2.1⟩⟩ rfl (by rw [List.length_map]; exact hn) hl.1 (by rw [hst]; simp [List.map_append, List.map_reverse]; rfl) (lv_room (by rw [stk_cat]; exact hwt)) hd.1 ⟨hroom.2.2.1, hroom.2.2.2⟩) hS (fun E ce q9 M' H1 locs1 hX hw1 hS1 h1 h2 h3 => kx E M' hX H1 locs1 ls ce q9 hw1 hS1 hl h1 h2 h3) (fun r ad' cn' M' H1 locs1 hp hw1 hS1 => ?_)
  obtain ⟨a1, a2⟩ := nkl_ag hnk (hP r ad' cn' M' hp)
  have k9 := kk r ad' cn' M' hp H1 locs1 ls hw1 hS1 (by rw [a1]; exact hl)
  rw [← hd.2] at k9
  have e9 : (r.toList ++ st).map (tv ad') = (r.map (tv ad')).toList ++ st.map (tv ad) := by rw [List.map_append, a2]; cases r <;> rfl
  rw [e9] at k9
  exact k9
end Rows
section Wr
variable {l : Launch} {b0 : Nat → Prop} {ad : Ads} {ns nt : Nat} {M : Mem}
theorem h_addShape (hl : l.stackTraces = false) {o : Res} {p0 p1 : Int} {ns' : Nat} (hns : o.1 ≠ 0 → ns' = ns) (hcon : ConN l b0 yX6_addShape cX6_addShape 4 (some .int) 9 20 120 [aO 0 0, aI p0, aI p1] ad (cnt ns nt) M (fun r ad' cn' M' => okR o r M' ∧ cn' = cnt ns' nt ∧ ∀ k' i', k' ∉ [4, 5, 13, 30, 31, 92, 94] → ad' k' i' = ad k' i') (exR o [eIA, eIS])) :
    ConHN l b0 yL_addShape cL_addShape 5 (some .int) [(0, 10, 13, 13), (0, 10, 17, 15)] 10 20 120 [aO 0 0, aI p0, aI p1, aO 80 0] ad (cnt ns nt) M (fun r ad' cn' M' => wR o r M' ∧ cn' = cnt ns' nt ∧ ∀ k' i', k' ∉ [4, 5, 13, 30, 31, 92, 94] → ad' k' i' = ad k' i') := by
  refine ConHN.of hl pl_L (Nat.le_of_ble_eq_true rfl) ?_
  intro D cA p e s m args below meth c C hr
  refine w_aload_n C dL_addShape_0 rfl ?_
  refine w_iconst C dL_addShape_1 ?_
  refine w_aload_n C dL_addShape_2 rfl ?_
  refine w_iload_n C dL_addShape_3 rfl ?_
  refine w_iload_n C dL_addShape_4 rfl ?_
  refine w_callVN (ks := [4, 5, 13, 30, 31, 92, 94]) C dL_addShape_5 hcon mX6_addShape vX6_addShape lk_L_27 Nat.zero_lt_one rfl rfl rfl rfl ⟨by decide, by decide, by decide, by decide⟩ (Nat.le_of_ble_eq_true rfl) rfl (fun _ _ _ _ h => h.2.2) (fun E M1 hX => ?_) (fun r1 ad1 cn1 M1 hP => ?_)
  · obtain ⟨i, he, ho, hR⟩ := hX
    have hn9 := hns (by omega)
    rcases i with _ | _ | i
    · obtain rfl := Option.some.inj he
      refine w_caught C (pre := []) (x := ⟨0, 10, 13, 13⟩) (suf := [⟨0, 10, 17, 15⟩]) rfl (fun z hz => by cases hz) rfl (by decide) le_L_13 ct_eIA dL_addShape_13 (by decide) ?_
      refine w_iconst C dL_addShape_15 ?_
      refine w_iretN C hr dL_addShape_16 rfl ⟨⟨by rw [ho]; rfl, hR, fun h => by omega⟩, by rw [hn9], fun _ _ _ => rfl⟩ (by decide) (by decide)
    · obtain rfl := Option.some.inj he
      refine w_caught C (pre := [⟨0, 10, 13, 13⟩]) (x := ⟨0, 10, 17, 15⟩) (suf := []) rfl (fun z hz => by
        simp only [List.mem_cons, List.not_mem_nil, or_false] at hz
        rcases hz with rfl
        exact ⟨by decide, eIA, le_L_13, List.mem_of_getElem? (i := 5) (by decide +kernel)⟩) rfl (by decide) le_L_15 ct_eIS dL_addShape_17 (by decide) ?_
      refine w_iconst C dL_addShape_19 ?_
      refine w_iretN C hr dL_addShape_20 rfl ⟨⟨by rw [ho]; rfl, hR, fun h => by omega⟩, by rw [hn9], fun _ _ _ => rfl⟩ (by decide) (by decide)
    · cases he
  · obtain ⟨⟨ho, rfl, hR⟩, rfl, hag⟩ := hP
    refine w_i2lA C dL_addShape_8 ?_
    refine w_last C dL_addShape_9 Nat.zero_lt_one LA_80 (by omega) ?_
    refine w_goto C dL_addShape_10 ?_
    refine w_iconst C dL_addShape_21 ?_
    exact w_iretN C hr dL_addShape_22 rfl ⟨⟨by rw [ho]; rfl, hR.o80, fun _ => rfl⟩, rfl, hag⟩ (by decide) (by decide)
theorem h_addStyle (hl : l.stackTraces = false) {o : Res} {nt' : Nat} (hnt : o.1 ≠ 0 → nt' = nt) (hcon : ConN l b0 yX6_addStyle cX6_addStyle 2 (some .int) 9 5 30 [aO 0 0] ad (cnt ns nt) M (fun r ad' cn' M' => okR o r M' ∧ cn' = cnt ns nt' ∧ ∀ k' i', k' ∉ [6, 32, 95] → ad' k' i' = ad k' i') (exR o [eIS])) :
    ConHN l b0 yL_addStyle cL_addStyle 3 (some .int) [(0, 8, 11, 15)] 10 5 30 [aO 0 0, aO 80 0] ad (cnt ns nt) M (fun r ad' cn' M' => wR o r M' ∧ cn' = cnt ns nt' ∧ ∀ k' i', k' ∉ [6, 32, 95] → ad' k' i' = ad k' i') := by
  refine ConHN.of hl pl_L (Nat.le_of_ble_eq_true rfl) ?_
  intro D cA p e s m args below meth c C hr
  refine w_aload_n C dL_addStyle_0 rfl ?_
  refine w_iconst C dL_addStyle_1 ?_
  refine w_aload_n C dL_addStyle_2 rfl ?_
  refine w_callVN (ks := [6, 32, 95]) C dL_addStyle_3 hcon mX6_addStyle vX6_addStyle lk_L_80 Nat.zero_lt_one rfl rfl rfl rfl ⟨by decide, by decide, by decide, by decide⟩ (Nat.le_of_ble_eq_true rfl) rfl (fun _ _ _ _ h => h.2.2) (fun E M1 hX => ?_) (fun r1 ad1 cn1 M1 hP => ?_)
  · obtain ⟨i, he, ho, hR⟩ := hX
    have hn9 := hnt (by omega)
    rcases i with _ | i
    · obtain rfl := Option.some.inj he
      refine w_caughtN C (pre := []) (x := ⟨0, 8, 11, 15⟩) (suf := []) rfl (fun z hz => by cases hz) rfl (by decide) le_L_15 ct_eIS dL_addStyle_11 (by decide) ?_
      refine w_iconst C dL_addStyle_12 ?_
      refine w_iretN C hr dL_addStyle_13 rfl ⟨⟨by rw [ho]; rfl, hR, fun h => by omega⟩, by rw [hn9], fun _ _ _ => rfl⟩ (by decide) (by decide)
    · cases he
  · obtain ⟨⟨ho, rfl, hR⟩, rfl, hag⟩ := hP
    refine w_i2lA C dL_addStyle_6 ?_
    refine w_last C dL_addStyle_7 Nat.zero_lt_one LA_80 (by omega) ?_
    refine w_goto C dL_addStyle_8 ?_
    refine w_iconst C dL_addStyle_14 ?_
    exact w_iretN C hr dL_addStyle_15 rfl ⟨⟨by rw [ho]; rfl, hR.o80, fun _ => rfl⟩, rfl, hag⟩ (by decide) (by decide)
theorem h_density (hl : l.stackTraces = false) {n9 : Nat} {v : UInt32} (hv : vf_n64 (FP.f2d v)) (hcon : Con l b0 yX6_density cX6_density 2 (some .float) 9 1 6 [aO 0 0] ad (cnt ns nt) M (fun r9 M' => M' = M ∧ n9 ≠ 0 ∧ r9 = some (aF v)) (fun E9 M' => E9 = eAR ∧ M' = M ∧ n9 = 0)) :
    ConH l b0 yL_density cL_density 3 (some .int) [(0, 8, 11, 124)] 10 1 6 [aO 0 0, aO 81 0] ad (cnt ns nt) M (fun r M' => (n9 = 0 ∧ M' = M ∧ r = some (aI 1)) ∨ (n9 ≠ 0 ∧ M' = uD M 81 0 0 (FP.f2d v) ∧ r = some (aI 0))) := by
  refine ConH.of hl pl_L (Nat.le_of_ble_eq_true rfl) ?_
  intro D cA p e s m args below meth c C hr
  refine w_aload_n C dL_density_0 rfl ?_
  refine w_iconst C dL_density_1 ?_
  refine w_aload_n C dL_density_2 rfl ?_
  refine w_callV0 C dL_density_3 hcon mX6_density vX6_density lk_L_120 Nat.zero_lt_one rfl rfl rfl rfl ⟨by decide, by decide, by decide, by decide⟩ (Nat.le_of_ble_eq_true rfl) (fun E M1 hX => ?_) (fun r1 M1 hP => ?_)
  · obtain ⟨rfl, rfl, h0⟩ := hX
    refine w_caughtN C (pre := []) (x := ⟨0, 8, 11, 124⟩) (suf := []) rfl (fun z hz => by cases hz) rfl (by decide) le_L_124 ct_eAR dL_density_11 (by decide) ?_
    refine w_iconst C dL_density_12 ?_
    exact w_iret C hr dL_density_13 rfl (Or.inl ⟨h0, rfl, rfl⟩) (by decide) (by decide)
  · obtain ⟨rfl, h0, rfl⟩ := hP
    refine w_f2d C dL_density_6 hv ?_
    refine w_dast C dL_density_7 Nat.zero_lt_one DA_81 (by omega) ?_
    refine w_goto C dL_density_8 ?_
    refine w_iconst C dL_density_14 ?_
    exact w_iret C hr dL_density_15 rfl (Or.inr ⟨h0, rfl, rfl⟩) (by decide) (by decide)
theorem h_meanCells (hl : l.stackTraces = false) {n9 : Nat} {v : UInt64} (hcon : Con l b0 yX6_meanCells cX6_meanCells 2 (some .double) 9 1 6 [aO 0 0] ad (cnt ns nt) M (fun r9 M' => M' = M ∧ n9 ≠ 0 ∧ r9 = some (aD v)) (fun E9 M' => E9 = eAR ∧ M' = M ∧ n9 = 0)) :
    ConH l b0 yL_meanCells cL_meanCells 3 (some .int) [(0, 7, 10, 124)] 10 1 6 [aO 0 0, aO 81 0] ad (cnt ns nt) M (fun r M' => (n9 = 0 ∧ M' = M ∧ r = some (aI 1)) ∨ (n9 ≠ 0 ∧ M' = uD M 81 0 0 v ∧ r = some (aI 0))) := by
  refine ConH.of hl pl_L (Nat.le_of_ble_eq_true rfl) ?_
  intro D cA p e s m args below meth c C hr
  refine w_aload_n C dL_meanCells_0 rfl ?_
  refine w_iconst C dL_meanCells_1 ?_
  refine w_aload_n C dL_meanCells_2 rfl ?_
  refine w_callV0 C dL_meanCells_3 hcon mX6_meanCells vX6_meanCells lk_L_126 Nat.zero_lt_one rfl rfl rfl rfl ⟨by decide, by decide, by decide, by decide⟩ (Nat.le_of_ble_eq_true rfl) (fun E M1 hX => ?_) (fun r1 M1 hP => ?_)
  · obtain ⟨rfl, rfl, h0⟩ := hX
    refine w_caughtN C (pre := []) (x := ⟨0, 7, 10, 124⟩) (suf := []) rfl (fun z hz => by cases hz) rfl (by decide) le_L_124 ct_eAR dL_meanCells_10 (by decide) ?_
    refine w_iconst C dL_meanCells_11 ?_
    exact w_iret C hr dL_meanCells_12 rfl (Or.inl ⟨h0, rfl, rfl⟩) (by decide) (by decide)
  · obtain ⟨rfl, h0, rfl⟩ := hP
    refine w_dast C dL_meanCells_6 Nat.zero_lt_one DA_81 (by omega) ?_
    refine w_goto C dL_meanCells_7 ?_
    refine w_iconst C dL_meanCells_13 ?_
    exact w_iret C hr dL_meanCells_14 rfl (Or.inr ⟨h0, rfl, rfl⟩) (by decide) (by decide)
end Wr
