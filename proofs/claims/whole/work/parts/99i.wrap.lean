/-! the wrappers: what the room throws becomes a number -/
theorem le_L_13 : Cond.classLink RL 13 eIA ∈ GW := mT2 (i := 36) (by decide +kernel) rfl
theorem le_L_15 : Cond.classLink RL 15 eIS ∈ GW := mT2 (i := 37) (by decide +kernel) rfl
theorem le_L_25 : Cond.classLink RL 25 eUO ∈ GW := mT2 (i := 148) (by decide +kernel) rfl
theorem le_L_35 : Cond.classLink RL 35 eIO ∈ GW := mT3 (i := 38) (by decide +kernel) rfl
theorem le_L_57 : Cond.classLink RL 57 eNS ∈ GW := mT3 (i := 231) (by decide +kernel) rfl
theorem le_L_124 : Cond.classLink RL 124 eAR ∈ GW := mT5 (i := 120) (by decide +kernel) rfl
theorem ct_eIA : (eIA, eIA) ∈ castL := List.mem_of_getElem? (i := 0) (by decide +kernel)
theorem ct_eIS : (eIS, eIS) ∈ castL := List.mem_of_getElem? (i := 1) (by decide +kernel)
theorem ct_eUO : (eUO, eUO) ∈ castL := List.mem_of_getElem? (i := 2) (by decide +kernel)
theorem ct_eIO : (eIO, eIO) ∈ castL := List.mem_of_getElem? (i := 4) (by decide +kernel)
theorem ct_eNS : (eNS, eNS) ∈ castL := List.mem_of_getElem? (i := 5) (by decide +kernel)
theorem ct_eAR : (eAR, eAR) ∈ castL := List.mem_of_getElem? (i := 6) (by decide +kernel)
section Wr
variable {l : Launch} {b0 : Nat → Prop} {ad : Ads} {ns nt : Nat} {M : Mem}
theorem h_setCloth (hl : l.stackTraces = false) {o : Res} {p0 p1 p2 : Int} (hcon : Con l b0 yX6_setCloth cX6_setCloth 5 (some .int) 9 1 6 [aO 0 0, aI p0, aI p1, aI p2] ad (cnt ns nt) M (okR o) (exR o [eIA, eIS])) : ConH l b0 yL_setCloth cL_setCloth 6 (some .int) [(0, 12, 15, 13), (0, 12, 19, 15)] 10 1 6 [aO 0 0, aI p0, aI p1, aI p2, aO 80 0] ad (cnt ns nt) M (wR o) := by
  refine ConH.of hl pl_L (Nat.le_of_ble_eq_true rfl) ?_
  intro D cA p e s m args below meth c C hr
  refine w_aload C dL_setCloth_0 rfl ?_
  refine w_iconst C dL_setCloth_2 ?_
  refine w_aload_n C dL_setCloth_3 rfl ?_
  refine w_iload_n C dL_setCloth_4 rfl ?_
  refine w_iload_n C dL_setCloth_5 rfl ?_
  refine w_iload_n C dL_setCloth_6 rfl ?_
  refine w_callV0 C dL_setCloth_7 hcon mX6_setCloth vX6_setCloth lk_L_7 Nat.zero_lt_one rfl rfl rfl rfl ⟨by decide, by decide, by decide, by decide⟩ (Nat.le_of_ble_eq_true rfl) (fun E M1 hX => ?_) (fun r1 M1 hP => ?_)
  · obtain ⟨i, he, ho, hR⟩ := hX
    rcases i with _ | _ | i
    · obtain rfl := Option.some.inj he
      refine w_caught C (pre := []) (x := ⟨0, 12, 15, 13⟩) (suf := [⟨0, 12, 19, 15⟩]) rfl (fun z hz => by cases hz) rfl (by decide) le_L_13 ct_eIA dL_setCloth_15 (by decide) ?_
      refine w_iconst C dL_setCloth_17 ?_
      refine w_iret C hr dL_setCloth_18 rfl ⟨by rw [ho]; rfl, hR, fun h => by omega⟩ (by decide) (by decide)
    · obtain rfl := Option.some.inj he
      refine w_caught C (pre := [⟨0, 12, 15, 13⟩]) (x := ⟨0, 12, 19, 15⟩) (suf := []) rfl (fun z hz => by
        simp only [List.mem_cons, List.not_mem_nil, or_false] at hz
        rcases hz with rfl <;> refine ⟨by decide, ?_⟩
        · exact ⟨eIA, le_L_13, List.mem_of_getElem? (i := 5) (by decide +kernel)⟩) rfl (by decide) le_L_15 ct_eIS dL_setCloth_19 (by decide) ?_
      refine w_iconst C dL_setCloth_21 ?_
      refine w_iret C hr dL_setCloth_22 rfl ⟨by rw [ho]; rfl, hR, fun h => by omega⟩ (by decide) (by decide)
    · cases he
  · obtain ⟨ho, rfl, hR⟩ := hP
    refine w_i2lA C dL_setCloth_10 ?_
    refine w_last C dL_setCloth_11 Nat.zero_lt_one LA_80 (by omega) ?_
    refine w_goto C dL_setCloth_12 ?_
    refine w_iconst C dL_setCloth_23 ?_
    exact w_iret C hr dL_setCloth_24 rfl ⟨by rw [ho]; rfl, hR.o80, fun _ => rfl⟩ (by decide) (by decide)
theorem h_fold (hl : l.stackTraces = false) {o : Res} {p0 : Int} (hv01 : o.2.1 = 0 ∨ o.2.1 = 1) (hcon : Con l b0 yX6_fold cX6_fold 3 (some .boolean) 9 1 6 [aO 0 0, aI p0] ad (cnt ns nt) M (okR o) (exR o [eIS])) : ConH l b0 yL_fold cL_fold 4 (some .int) [(0, 16, 19, 15)] 10 1 6 [aO 0 0, aI p0, aO 80 0] ad (cnt ns nt) M (wR o) := by
  refine ConH.of hl pl_L (Nat.le_of_ble_eq_true rfl) ?_
  intro D cA p e s m args below meth c C hr
  refine w_aload_n C dL_fold_0 rfl ?_
  refine w_iconst C dL_fold_1 ?_
  refine w_aload_n C dL_fold_2 rfl ?_
  refine w_iload_n C dL_fold_3 rfl ?_
  refine w_callV0 C dL_fold_4 hcon mX6_fold vX6_fold lk_L_17 Nat.zero_lt_one rfl rfl rfl rfl ⟨by decide, by decide, by decide, by decide⟩ (Nat.le_of_ble_eq_true rfl) (fun E M1 hX => ?_) (fun r1 M1 hP => ?_)
  · obtain ⟨i, he, ho, hR⟩ := hX
    rcases i with _ | i
    · obtain rfl := Option.some.inj he
      refine w_caughtN C (pre := []) (x := ⟨0, 16, 19, 15⟩) (suf := []) rfl (fun z hz => by cases hz) rfl (by decide) le_L_15 ct_eIS dL_fold_19 (by decide) ?_
      refine w_iconst C dL_fold_20 ?_
      refine w_iret C hr dL_fold_21 rfl ⟨by rw [ho]; rfl, hR, fun h => by omega⟩ (by decide) (by decide)
    · cases he
  · obtain ⟨ho, rfl, hR⟩ := hP
    have tl : ∀ z : Int, z = o.2.1 → Wm p l e (rmd 10 1 6) s m args below meth c 4 D cA b0 1 6 (vx_MQ below (mQ D cA b0 ad (cnt ns nt) (wR o)) (mX D cA b0 ad (cnt ns nt) (fun _ _ => False)) args s 1 6 b0) 15 [(0, aO 0 0), (1, aI p0), (2, aO 80 0)] [aL z, aI 0, aO 80 0] ad (cnt ns nt) M1 := by
      intro z hz
      refine w_last C dL_fold_15 Nat.zero_lt_one LA_80 (by omega) ?_
      refine w_goto C dL_fold_16 ?_
      refine w_iconst C dL_fold_22 ?_
      refine w_iret C hr dL_fold_23 rfl ⟨by rw [ho]; rfl, hR.o80, fun _ => ?_⟩ (by decide) (by decide)
      rw [uL_get, if_pos ⟨rfl, rfl, rfl⟩, hz, e32 (by omega)]
    refine w_if_eq C dL_fold_7 (by omega) (fun h9 => ?_) (fun h9 => ?_)
    · refine w_lconst C dL_fold_14 ?_
      exact Wm.lsub (lv' := [(0, aO 0 0), (1, aI p0), (2, aO 80 0)]) ⟨rfl, rfl, rfl, trivial⟩ (tl 0 (by omega))
    · refine w_lconst C dL_fold_10 ?_
      refine w_goto C dL_fold_11 ?_
      exact Wm.lsub (lv' := [(0, aO 0 0), (1, aI p0), (2, aO 80 0)]) ⟨rfl, rfl, rfl, trivial⟩ (tl 1 (by omega))
theorem h_addFlaw (hl : l.stackTraces = false) {o : Res} {p0 p1 : Int} (hcon : Con l b0 yX6_addFlaw cX6_addFlaw 3 (some .int) 9 1 6 [aO 0 0, aI p0, aI p1] ad (cnt ns nt) M (okR o) (exR o [eIA, eUO, eIS])) : ConH l b0 yL_addFlaw cL_addFlaw 5 (some .int) [(0, 10, 13, 13), (0, 10, 17, 25), (0, 10, 21, 15)] 10 1 6 [aO 0 0, aI p0, aI p1, aO 80 0] ad (cnt ns nt) M (wR o) := by
  refine ConH.of hl pl_L (Nat.le_of_ble_eq_true rfl) ?_
  intro D cA p e s m args below meth c C hr
  refine w_aload_n C dL_addFlaw_0 rfl ?_
  refine w_iconst C dL_addFlaw_1 ?_
  refine w_aload_n C dL_addFlaw_2 rfl ?_
  refine w_iload_n C dL_addFlaw_3 rfl ?_
  refine w_iload_n C dL_addFlaw_4 rfl ?_
  refine w_callV0 C dL_addFlaw_5 hcon mX6_addFlaw vX6_addFlaw lk_L_21 Nat.zero_lt_one rfl rfl rfl rfl ⟨by decide, by decide, by decide, by decide⟩ (Nat.le_of_ble_eq_true rfl) (fun E M1 hX => ?_) (fun r1 M1 hP => ?_)
  · obtain ⟨i, he, ho, hR⟩ := hX
    rcases i with _ | _ | _ | i
    · obtain rfl := Option.some.inj he
      refine w_caught C (pre := []) (x := ⟨0, 10, 13, 13⟩) (suf := [⟨0, 10, 17, 25⟩, ⟨0, 10, 21, 15⟩]) rfl (fun z hz => by cases hz) rfl (by decide) le_L_13 ct_eIA dL_addFlaw_13 (by decide) ?_
      refine w_iconst C dL_addFlaw_15 ?_
      refine w_iret C hr dL_addFlaw_16 rfl ⟨by rw [ho]; rfl, hR, fun h => by omega⟩ (by decide) (by decide)
    · obtain rfl := Option.some.inj he
      refine w_caught C (pre := [⟨0, 10, 13, 13⟩]) (x := ⟨0, 10, 17, 25⟩) (suf := [⟨0, 10, 21, 15⟩]) rfl (fun z hz => by
        simp only [List.mem_cons, List.not_mem_nil, or_false] at hz
        rcases hz with rfl <;> refine ⟨by decide, ?_⟩
        · exact ⟨eIA, le_L_13, List.mem_of_getElem? (i := 6) (by decide +kernel)⟩) rfl (by decide) le_L_25 ct_eUO dL_addFlaw_17 (by decide) ?_
      refine w_iconst C dL_addFlaw_19 ?_
      refine w_iret C hr dL_addFlaw_20 rfl ⟨by rw [ho]; rfl, hR, fun h => by omega⟩ (by decide) (by decide)
    · obtain rfl := Option.some.inj he
      refine w_caught C (pre := [⟨0, 10, 13, 13⟩, ⟨0, 10, 17, 25⟩]) (x := ⟨0, 10, 21, 15⟩) (suf := []) rfl (fun z hz => by
        simp only [List.mem_cons, List.not_mem_nil, or_false] at hz
        rcases hz with rfl | rfl <;> refine ⟨by decide, ?_⟩
        · exact ⟨eIA, le_L_13, List.mem_of_getElem? (i := 5) (by decide +kernel)⟩
        · exact ⟨eUO, le_L_25, List.mem_of_getElem? (i := 34) (by decide +kernel)⟩) rfl (by decide) le_L_15 ct_eIS dL_addFlaw_21 (by decide) ?_
      refine w_iconst C dL_addFlaw_23 ?_
      refine w_iret C hr dL_addFlaw_24 rfl ⟨by rw [ho]; rfl, hR, fun h => by omega⟩ (by decide) (by decide)
    · cases he
  · obtain ⟨ho, rfl, hR⟩ := hP
    refine w_i2lA C dL_addFlaw_8 ?_
    refine w_last C dL_addFlaw_9 Nat.zero_lt_one LA_80 (by omega) ?_
    refine w_goto C dL_addFlaw_10 ?_
    refine w_iconst C dL_addFlaw_25 ?_
    exact w_iret C hr dL_addFlaw_26 rfl ⟨by rw [ho]; rfl, hR.o80, fun _ => rfl⟩ (by decide) (by decide)
theorem h_addCell (hl : l.stackTraces = false) {o : Res} {p0 p1 p2 : Int} (hcon : Con l b0 yX6_addCell cX6_addCell 5 (some .int) 10 2 12 [aO 0 0, aI p0, aI p1, aI p2] ad (cnt ns nt) M (okR o) (exR o [eIO, eIA, eUO, eIS])) : ConH l b0 yL_addCell cL_addCell 6 (some .int) [(0, 12, 15, 35), (0, 12, 19, 13), (0, 12, 23, 25), (0, 12, 27, 15)] 11 2 12 [aO 0 0, aI p0, aI p1, aI p2, aO 80 0] ad (cnt ns nt) M (wR o) := by
  refine ConH.of hl pl_L (Nat.le_of_ble_eq_true rfl) ?_
  intro D cA p e s m args below meth c C hr
  refine w_aload C dL_addCell_0 rfl ?_
  refine w_iconst C dL_addCell_2 ?_
  refine w_aload_n C dL_addCell_3 rfl ?_
  refine w_iload_n C dL_addCell_4 rfl ?_
  refine w_iload_n C dL_addCell_5 rfl ?_
  refine w_iload_n C dL_addCell_6 rfl ?_
  refine w_callV0 C dL_addCell_7 hcon mX6_addCell vX6_addCell lk_L_31 Nat.zero_lt_one rfl rfl rfl rfl ⟨by decide, by decide, by decide, by decide⟩ (Nat.le_of_ble_eq_true rfl) (fun E M1 hX => ?_) (fun r1 M1 hP => ?_)
  · obtain ⟨i, he, ho, hR⟩ := hX
    rcases i with _ | _ | _ | _ | i
    · obtain rfl := Option.some.inj he
      refine w_caught C (pre := []) (x := ⟨0, 12, 15, 35⟩) (suf := [⟨0, 12, 19, 13⟩, ⟨0, 12, 23, 25⟩, ⟨0, 12, 27, 15⟩]) rfl (fun z hz => by cases hz) rfl (by decide) le_L_35 ct_eIO dL_addCell_15 (by decide) ?_
      refine w_iconst C dL_addCell_17 ?_
      refine w_iret C hr dL_addCell_18 rfl ⟨by rw [ho]; rfl, hR, fun h => by omega⟩ (by decide) (by decide)
    · obtain rfl := Option.some.inj he
      refine w_caught C (pre := [⟨0, 12, 15, 35⟩]) (x := ⟨0, 12, 19, 13⟩) (suf := [⟨0, 12, 23, 25⟩, ⟨0, 12, 27, 15⟩]) rfl (fun z hz => by
        simp only [List.mem_cons, List.not_mem_nil, or_false] at hz
        rcases hz with rfl <;> refine ⟨by decide, ?_⟩
        · exact ⟨eIO, le_L_35, List.mem_of_getElem? (i := 47) (by decide +kernel)⟩) rfl (by decide) le_L_13 ct_eIA dL_addCell_19 (by decide) ?_
      refine w_iconst C dL_addCell_21 ?_
      refine w_iret C hr dL_addCell_22 rfl ⟨by rw [ho]; rfl, hR, fun h => by omega⟩ (by decide) (by decide)
    · obtain rfl := Option.some.inj he
      refine w_caught C (pre := [⟨0, 12, 15, 35⟩, ⟨0, 12, 19, 13⟩]) (x := ⟨0, 12, 23, 25⟩) (suf := [⟨0, 12, 27, 15⟩]) rfl (fun z hz => by
        simp only [List.mem_cons, List.not_mem_nil, or_false] at hz
        rcases hz with rfl | rfl <;> refine ⟨by decide, ?_⟩
        · exact ⟨eIO, le_L_35, List.mem_of_getElem? (i := 49) (by decide +kernel)⟩
        · exact ⟨eIA, le_L_13, List.mem_of_getElem? (i := 6) (by decide +kernel)⟩) rfl (by decide) le_L_25 ct_eUO dL_addCell_23 (by decide) ?_
      refine w_iconst C dL_addCell_25 ?_
      refine w_iret C hr dL_addCell_26 rfl ⟨by rw [ho]; rfl, hR, fun h => by omega⟩ (by decide) (by decide)
    · obtain rfl := Option.some.inj he
      refine w_caught C (pre := [⟨0, 12, 15, 35⟩, ⟨0, 12, 19, 13⟩, ⟨0, 12, 23, 25⟩]) (x := ⟨0, 12, 27, 15⟩) (suf := []) rfl (fun z hz => by
        simp only [List.mem_cons, List.not_mem_nil, or_false] at hz
        rcases hz with rfl | rfl | rfl <;> refine ⟨by decide, ?_⟩
        · exact ⟨eIO, le_L_35, List.mem_of_getElem? (i := 48) (by decide +kernel)⟩
        · exact ⟨eIA, le_L_13, List.mem_of_getElem? (i := 5) (by decide +kernel)⟩
        · exact ⟨eUO, le_L_25, List.mem_of_getElem? (i := 34) (by decide +kernel)⟩) rfl (by decide) le_L_15 ct_eIS dL_addCell_27 (by decide) ?_
      refine w_iconst C dL_addCell_29 ?_
      refine w_iret C hr dL_addCell_30 rfl ⟨by rw [ho]; rfl, hR, fun h => by omega⟩ (by decide) (by decide)
    · cases he
  · obtain ⟨ho, rfl, hR⟩ := hP
    refine w_i2lA C dL_addCell_10 ?_
    refine w_last C dL_addCell_11 Nat.zero_lt_one LA_80 (by omega) ?_
    refine w_goto C dL_addCell_12 ?_
    refine w_iconst C dL_addCell_31 ?_
    exact w_iret C hr dL_addCell_32 rfl ⟨by rw [ho]; rfl, hR.o80, fun _ => rfl⟩ (by decide) (by decide)
theorem h_setMark (hl : l.stackTraces = false) {o : Res} {p0 p1 p2 p3 : Int} (hcon : Con l b0 yX6_setMark cX6_setMark 7 (some .int) 10 2 12 [aO 0 0, aI p0, aI p1, aI p2, aI p3] ad (cnt ns nt) M (okR o) (exR o [eIO, eIA, eIS])) : ConH l b0 yL_setMark cL_setMark 7 (some .int) [(0, 14, 17, 35), (0, 14, 21, 13), (0, 14, 25, 15)] 11 2 12 [aO 0 0, aI p0, aI p1, aI p2, aI p3, aO 80 0] ad (cnt ns nt) M (wR o) := by
  refine ConH.of hl pl_L (Nat.le_of_ble_eq_true rfl) ?_
  intro D cA p e s m args below meth c C hr
  refine w_aload C dL_setMark_0 rfl ?_
  refine w_iconst C dL_setMark_2 ?_
  refine w_aload_n C dL_setMark_3 rfl ?_
  refine w_iload_n C dL_setMark_4 rfl ?_
  refine w_iload_n C dL_setMark_5 rfl ?_
  refine w_iload_n C dL_setMark_6 rfl ?_
  refine w_iload C dL_setMark_7 rfl ?_
  refine w_callV0 C dL_setMark_9 hcon mX6_setMark vX6_setMark lk_L_37 Nat.zero_lt_one rfl rfl rfl rfl ⟨by decide, by decide, by decide, by decide⟩ (Nat.le_of_ble_eq_true rfl) (fun E M1 hX => ?_) (fun r1 M1 hP => ?_)
  · obtain ⟨i, he, ho, hR⟩ := hX
    rcases i with _ | _ | _ | i
    · obtain rfl := Option.some.inj he
      refine w_caught C (pre := []) (x := ⟨0, 14, 17, 35⟩) (suf := [⟨0, 14, 21, 13⟩, ⟨0, 14, 25, 15⟩]) rfl (fun z hz => by cases hz) rfl (by decide) le_L_35 ct_eIO dL_setMark_17 (by decide) ?_
      refine w_iconst C dL_setMark_19 ?_
      refine w_iret C hr dL_setMark_20 rfl ⟨by rw [ho]; rfl, hR, fun h => by omega⟩ (by decide) (by decide)
    · obtain rfl := Option.some.inj he
      refine w_caught C (pre := [⟨0, 14, 17, 35⟩]) (x := ⟨0, 14, 21, 13⟩) (suf := [⟨0, 14, 25, 15⟩]) rfl (fun z hz => by
        simp only [List.mem_cons, List.not_mem_nil, or_false] at hz
        rcases hz with rfl <;> refine ⟨by decide, ?_⟩
        · exact ⟨eIO, le_L_35, List.mem_of_getElem? (i := 47) (by decide +kernel)⟩) rfl (by decide) le_L_13 ct_eIA dL_setMark_21 (by decide) ?_
      refine w_iconst C dL_setMark_23 ?_
      refine w_iret C hr dL_setMark_24 rfl ⟨by rw [ho]; rfl, hR, fun h => by omega⟩ (by decide) (by decide)
    · obtain rfl := Option.some.inj he
      refine w_caught C (pre := [⟨0, 14, 17, 35⟩, ⟨0, 14, 21, 13⟩]) (x := ⟨0, 14, 25, 15⟩) (suf := []) rfl (fun z hz => by
        simp only [List.mem_cons, List.not_mem_nil, or_false] at hz
        rcases hz with rfl | rfl <;> refine ⟨by decide, ?_⟩
        · exact ⟨eIO, le_L_35, List.mem_of_getElem? (i := 48) (by decide +kernel)⟩
        · exact ⟨eIA, le_L_13, List.mem_of_getElem? (i := 5) (by decide +kernel)⟩) rfl (by decide) le_L_15 ct_eIS dL_setMark_25 (by decide) ?_
      refine w_iconst C dL_setMark_27 ?_
      refine w_iret C hr dL_setMark_28 rfl ⟨by rw [ho]; rfl, hR, fun h => by omega⟩ (by decide) (by decide)
    · cases he
  · obtain ⟨ho, rfl, hR⟩ := hP
    refine w_i2lA C dL_setMark_12 ?_
    refine w_last C dL_setMark_13 Nat.zero_lt_one LA_80 (by omega) ?_
    refine w_goto C dL_setMark_14 ?_
    refine w_iconst C dL_setMark_29 ?_
    exact w_iret C hr dL_setMark_30 rfl ⟨by rw [ho]; rfl, hR.o80, fun _ => rfl⟩ (by decide) (by decide)
theorem h_cellsOf (hl : l.stackTraces = false) {o : Res} {p0 : Int} (hcon : Con l b0 yX6_cellsOf cX6_cellsOf 2 (some .int) 10 1 6 [aO 0 0, aI p0] ad (cnt ns nt) M (okR o) (exR o [eIO])) : ConH l b0 yL_cellsOf cL_cellsOf 4 (some .int) [(0, 9, 12, 35)] 11 1 6 [aO 0 0, aI p0, aO 80 0] ad (cnt ns nt) M (wR o) := by
  refine ConH.of hl pl_L (Nat.le_of_ble_eq_true rfl) ?_
  intro D cA p e s m args below meth c C hr
  refine w_aload_n C dL_cellsOf_0 rfl ?_
  refine w_iconst C dL_cellsOf_1 ?_
  refine w_aload_n C dL_cellsOf_2 rfl ?_
  refine w_iload_n C dL_cellsOf_3 rfl ?_
  refine w_callV0 C dL_cellsOf_4 hcon mX6_cellsOf vX6_cellsOf lk_L_41 Nat.zero_lt_one rfl rfl rfl rfl ⟨by decide, by decide, by decide, by decide⟩ (Nat.le_of_ble_eq_true rfl) (fun E M1 hX => ?_) (fun r1 M1 hP => ?_)
  · obtain ⟨i, he, ho, hR⟩ := hX
    rcases i with _ | i
    · obtain rfl := Option.some.inj he
      refine w_caughtN C (pre := []) (x := ⟨0, 9, 12, 35⟩) (suf := []) rfl (fun z hz => by cases hz) rfl (by decide) le_L_35 ct_eIO dL_cellsOf_12 (by decide) ?_
      refine w_iconst C dL_cellsOf_13 ?_
      refine w_iret C hr dL_cellsOf_14 rfl ⟨by rw [ho]; rfl, hR, fun h => by omega⟩ (by decide) (by decide)
    · cases he
  · obtain ⟨ho, rfl, hR⟩ := hP
    refine w_i2lA C dL_cellsOf_7 ?_
    refine w_last C dL_cellsOf_8 Nat.zero_lt_one LA_80 (by omega) ?_
    refine w_goto C dL_cellsOf_9 ?_
    refine w_iconst C dL_cellsOf_15 ?_
    exact w_iret C hr dL_cellsOf_16 rfl ⟨by rw [ho]; rfl, hR.o80, fun _ => rfl⟩ (by decide) (by decide)
theorem h_lay (hl : l.stackTraces = false) {o : Res} {p0 p1 p2 p3 p4 : Int} (hcon : Con l b0 yX6_lay cX6_lay 7 (some .int) 10 3 18 [aO 0 0, aI p0, aI p1, aI p2, aI p3, aI p4] ad (cnt ns nt) M (okR o) (exR o [eIO, eIA, eUO, eIS])) : ConH l b0 yL_lay cL_lay 8 (some .int) [(0, 16, 19, 35), (0, 16, 23, 13), (0, 16, 27, 25), (0, 16, 31, 15)] 11 3 18 [aO 0 0, aI p0, aI p1, aI p2, aI p3, aI p4, aO 80 0] ad (cnt ns nt) M (wR o) := by
  refine ConH.of hl pl_L (Nat.le_of_ble_eq_true rfl) ?_
  intro D cA p e s m args below meth c C hr
  refine w_aload C dL_lay_0 rfl ?_
  refine w_iconst C dL_lay_2 ?_
  refine w_aload_n C dL_lay_3 rfl ?_
  refine w_iload_n C dL_lay_4 rfl ?_
  refine w_iload_n C dL_lay_5 rfl ?_
  refine w_iload_n C dL_lay_6 rfl ?_
  refine w_iload C dL_lay_7 rfl ?_
  refine w_iload C dL_lay_9 rfl ?_
  refine w_callV0 C dL_lay_11 hcon mX6_lay vX6_lay lk_L_45 Nat.zero_lt_one rfl rfl rfl rfl ⟨by decide, by decide, by decide, by decide⟩ (Nat.le_of_ble_eq_true rfl) (fun E M1 hX => ?_) (fun r1 M1 hP => ?_)
  · obtain ⟨i, he, ho, hR⟩ := hX
    rcases i with _ | _ | _ | _ | i
    · obtain rfl := Option.some.inj he
      refine w_caught C (pre := []) (x := ⟨0, 16, 19, 35⟩) (suf := [⟨0, 16, 23, 13⟩, ⟨0, 16, 27, 25⟩, ⟨0, 16, 31, 15⟩]) rfl (fun z hz => by cases hz) rfl (by decide) le_L_35 ct_eIO dL_lay_19 (by decide) ?_
      refine w_iconst C dL_lay_21 ?_
      refine w_iret C hr dL_lay_22 rfl ⟨by rw [ho]; rfl, hR, fun h => by omega⟩ (by decide) (by decide)
    · obtain rfl := Option.some.inj he
      refine w_caught C (pre := [⟨0, 16, 19, 35⟩]) (x := ⟨0, 16, 23, 13⟩) (suf := [⟨0, 16, 27, 25⟩, ⟨0, 16, 31, 15⟩]) rfl (fun z hz => by
        simp only [List.mem_cons, List.not_mem_nil, or_false] at hz
        rcases hz with rfl <;> refine ⟨by decide, ?_⟩
        · exact ⟨eIO, le_L_35, List.mem_of_getElem? (i := 47) (by decide +kernel)⟩) rfl (by decide) le_L_13 ct_eIA dL_lay_23 (by decide) ?_
      refine w_iconst C dL_lay_25 ?_
      refine w_iret C hr dL_lay_26 rfl ⟨by rw [ho]; rfl, hR, fun h => by omega⟩ (by decide) (by decide)
    · obtain rfl := Option.some.inj he
      refine w_caught C (pre := [⟨0, 16, 19, 35⟩, ⟨0, 16, 23, 13⟩]) (x := ⟨0, 16, 27, 25⟩) (suf := [⟨0, 16, 31, 15⟩]) rfl (fun z hz => by
        simp only [List.mem_cons, List.not_mem_nil, or_false] at hz
        rcases hz with rfl | rfl <;> refine ⟨by decide, ?_⟩
        · exact ⟨eIO, le_L_35, List.mem_of_getElem? (i := 49) (by decide +kernel)⟩
        · exact ⟨eIA, le_L_13, List.mem_of_getElem? (i := 6) (by decide +kernel)⟩) rfl (by decide) le_L_25 ct_eUO dL_lay_27 (by decide) ?_
      refine w_iconst C dL_lay_29 ?_
      refine w_iret C hr dL_lay_30 rfl ⟨by rw [ho]; rfl, hR, fun h => by omega⟩ (by decide) (by decide)
    · obtain rfl := Option.some.inj he
      refine w_caught C (pre := [⟨0, 16, 19, 35⟩, ⟨0, 16, 23, 13⟩, ⟨0, 16, 27, 25⟩]) (x := ⟨0, 16, 31, 15⟩) (suf := []) rfl (fun z hz => by
        simp only [List.mem_cons, List.not_mem_nil, or_false] at hz
        rcases hz with rfl | rfl | rfl <;> refine ⟨by decide, ?_⟩
        · exact ⟨eIO, le_L_35, List.mem_of_getElem? (i := 48) (by decide +kernel)⟩
        · exact ⟨eIA, le_L_13, List.mem_of_getElem? (i := 5) (by decide +kernel)⟩
        · exact ⟨eUO, le_L_25, List.mem_of_getElem? (i := 34) (by decide +kernel)⟩) rfl (by decide) le_L_15 ct_eIS dL_lay_31 (by decide) ?_
      refine w_iconst C dL_lay_33 ?_
      refine w_iret C hr dL_lay_34 rfl ⟨by rw [ho]; rfl, hR, fun h => by omega⟩ (by decide) (by decide)
    · cases he
  · obtain ⟨ho, rfl, hR⟩ := hP
    refine w_i2lA C dL_lay_14 ?_
    refine w_last C dL_lay_15 Nat.zero_lt_one LA_80 (by omega) ?_
    refine w_goto C dL_lay_16 ?_
    refine w_iconst C dL_lay_35 ?_
    exact w_iret C hr dL_lay_36 rfl ⟨by rw [ho]; rfl, hR.o80, fun _ => rfl⟩ (by decide) (by decide)
theorem h_reason (hl : l.stackTraces = false) {o : Res} {p0 p1 p2 p3 p4 : Int} (hcon : Con l b0 yX6_reason cX6_reason 7 (some .char) 10 2 12 [aO 0 0, aI p0, aI p1, aI p2, aI p3, aI p4] ad (cnt ns nt) M (okR o) (exR o [eIO, eIA])) : ConH l b0 yL_reason cL_reason 8 (some .int) [(0, 16, 19, 35), (0, 16, 23, 13)] 11 2 12 [aO 0 0, aI p0, aI p1, aI p2, aI p3, aI p4, aO 80 0] ad (cnt ns nt) M (wR o) := by
  refine ConH.of hl pl_L (Nat.le_of_ble_eq_true rfl) ?_
  intro D cA p e s m args below meth c C hr
  refine w_aload C dL_reason_0 rfl ?_
  refine w_iconst C dL_reason_2 ?_
  refine w_aload_n C dL_reason_3 rfl ?_
  refine w_iload_n C dL_reason_4 rfl ?_
  refine w_iload_n C dL_reason_5 rfl ?_
  refine w_iload_n C dL_reason_6 rfl ?_
  refine w_iload C dL_reason_7 rfl ?_
  refine w_iload C dL_reason_9 rfl ?_
  refine w_callV0 C dL_reason_11 hcon mX6_reason vX6_reason lk_L_49 Nat.zero_lt_one rfl rfl rfl rfl ⟨by decide, by decide, by decide, by decide⟩ (Nat.le_of_ble_eq_true rfl) (fun E M1 hX => ?_) (fun r1 M1 hP => ?_)
  · obtain ⟨i, he, ho, hR⟩ := hX
    rcases i with _ | _ | i
    · obtain rfl := Option.some.inj he
      refine w_caught C (pre := []) (x := ⟨0, 16, 19, 35⟩) (suf := [⟨0, 16, 23, 13⟩]) rfl (fun z hz => by cases hz) rfl (by decide) le_L_35 ct_eIO dL_reason_19 (by decide) ?_
      refine w_iconst C dL_reason_21 ?_
      refine w_iret C hr dL_reason_22 rfl ⟨by rw [ho]; rfl, hR, fun h => by omega⟩ (by decide) (by decide)
    · obtain rfl := Option.some.inj he
      refine w_caught C (pre := [⟨0, 16, 19, 35⟩]) (x := ⟨0, 16, 23, 13⟩) (suf := []) rfl (fun z hz => by
        simp only [List.mem_cons, List.not_mem_nil, or_false] at hz
        rcases hz with rfl <;> refine ⟨by decide, ?_⟩
        · exact ⟨eIO, le_L_35, List.mem_of_getElem? (i := 47) (by decide +kernel)⟩) rfl (by decide) le_L_13 ct_eIA dL_reason_23 (by decide) ?_
      refine w_iconst C dL_reason_25 ?_
      refine w_iret C hr dL_reason_26 rfl ⟨by rw [ho]; rfl, hR, fun h => by omega⟩ (by decide) (by decide)
    · cases he
  · obtain ⟨ho, rfl, hR⟩ := hP
    refine w_i2lA C dL_reason_14 ?_
    refine w_last C dL_reason_15 Nat.zero_lt_one LA_80 (by omega) ?_
    refine w_goto C dL_reason_16 ?_
    refine w_iconst C dL_reason_27 ?_
    exact w_iret C hr dL_reason_28 rfl ⟨by rw [ho]; rfl, hR.o80, fun _ => rfl⟩ (by decide) (by decide)
theorem h_nest (hl : l.stackTraces = false) {o : Res} {p0 p1 : Int} (hcon : Con l b0 yX6_nest cX6_nest 5 (some .int) 10 2 12 [aO 0 0, aI p0, aI p1] ad (cnt ns nt) M (okR o) (exR o [eIO, eNS, eIS])) : ConH l b0 yL_nest cL_nest 5 (some .int) [(0, 10, 13, 35), (0, 10, 17, 57), (0, 10, 21, 15)] 11 2 12 [aO 0 0, aI p0, aI p1, aO 80 0] ad (cnt ns nt) M (wR o) := by
  refine ConH.of hl pl_L (Nat.le_of_ble_eq_true rfl) ?_
  intro D cA p e s m args below meth c C hr
  refine w_aload_n C dL_nest_0 rfl ?_
  refine w_iconst C dL_nest_1 ?_
  refine w_aload_n C dL_nest_2 rfl ?_
  refine w_iload_n C dL_nest_3 rfl ?_
  refine w_iload_n C dL_nest_4 rfl ?_
  refine w_callV0 C dL_nest_5 hcon mX6_nest vX6_nest lk_L_53 Nat.zero_lt_one rfl rfl rfl rfl ⟨by decide, by decide, by decide, by decide⟩ (Nat.le_of_ble_eq_true rfl) (fun E M1 hX => ?_) (fun r1 M1 hP => ?_)
  · obtain ⟨i, he, ho, hR⟩ := hX
    rcases i with _ | _ | _ | i
    · obtain rfl := Option.some.inj he
      refine w_caught C (pre := []) (x := ⟨0, 10, 13, 35⟩) (suf := [⟨0, 10, 17, 57⟩, ⟨0, 10, 21, 15⟩]) rfl (fun z hz => by cases hz) rfl (by decide) le_L_35 ct_eIO dL_nest_13 (by decide) ?_
      refine w_iconst C dL_nest_15 ?_
      refine w_iret C hr dL_nest_16 rfl ⟨by rw [ho]; rfl, hR, fun h => by omega⟩ (by decide) (by decide)
    · obtain rfl := Option.some.inj he
      refine w_caught C (pre := [⟨0, 10, 13, 35⟩]) (x := ⟨0, 10, 17, 57⟩) (suf := [⟨0, 10, 21, 15⟩]) rfl (fun z hz => by
        simp only [List.mem_cons, List.not_mem_nil, or_false] at hz
        rcases hz with rfl <;> refine ⟨by decide, ?_⟩
        · exact ⟨eIO, le_L_35, List.mem_of_getElem? (i := 52) (by decide +kernel)⟩) rfl (by decide) le_L_57 ct_eNS dL_nest_17 (by decide) ?_
      refine w_iconst C dL_nest_19 ?_
      refine w_iret C hr dL_nest_20 rfl ⟨by rw [ho]; rfl, hR, fun h => by omega⟩ (by decide) (by decide)
    · obtain rfl := Option.some.inj he
      refine w_caught C (pre := [⟨0, 10, 13, 35⟩, ⟨0, 10, 17, 57⟩]) (x := ⟨0, 10, 21, 15⟩) (suf := []) rfl (fun z hz => by
        simp only [List.mem_cons, List.not_mem_nil, or_false] at hz
        rcases hz with rfl | rfl <;> refine ⟨by decide, ?_⟩
        · exact ⟨eIO, le_L_35, List.mem_of_getElem? (i := 48) (by decide +kernel)⟩
        · exact ⟨eNS, le_L_57, List.mem_of_getElem? (i := 61) (by decide +kernel)⟩) rfl (by decide) le_L_15 ct_eIS dL_nest_21 (by decide) ?_
      refine w_iconst C dL_nest_23 ?_
      refine w_iret C hr dL_nest_24 rfl ⟨by rw [ho]; rfl, hR, fun h => by omega⟩ (by decide) (by decide)
    · cases he
  · obtain ⟨ho, rfl, hR⟩ := hP
    refine w_i2lA C dL_nest_8 ?_
    refine w_last C dL_nest_9 Nat.zero_lt_one LA_80 (by omega) ?_
    refine w_goto C dL_nest_10 ?_
    refine w_iconst C dL_nest_25 ?_
    exact w_iret C hr dL_nest_26 rfl ⟨by rw [ho]; rfl, hR.o80, fun _ => rfl⟩ (by decide) (by decide)
theorem h_takeOff (hl : l.stackTraces = false) {o : Res} {p0 : Int} (hcon : Con l b0 yX6_takeOff cX6_takeOff 2 (some .int) 10 1 6 [aO 0 0, aI p0] ad (cnt ns nt) M (okR o) (exR o [eNS])) : ConH l b0 yL_takeOff cL_takeOff 4 (some .int) [(0, 9, 12, 57)] 11 1 6 [aO 0 0, aI p0, aO 80 0] ad (cnt ns nt) M (wR o) := by
  refine ConH.of hl pl_L (Nat.le_of_ble_eq_true rfl) ?_
  intro D cA p e s m args below meth c C hr
  refine w_aload_n C dL_takeOff_0 rfl ?_
  refine w_iconst C dL_takeOff_1 ?_
  refine w_aload_n C dL_takeOff_2 rfl ?_
  refine w_iload_n C dL_takeOff_3 rfl ?_
  refine w_callV0 C dL_takeOff_4 hcon mX6_takeOff vX6_takeOff lk_L_59 Nat.zero_lt_one rfl rfl rfl rfl ⟨by decide, by decide, by decide, by decide⟩ (Nat.le_of_ble_eq_true rfl) (fun E M1 hX => ?_) (fun r1 M1 hP => ?_)
  · obtain ⟨i, he, ho, hR⟩ := hX
    rcases i with _ | i
    · obtain rfl := Option.some.inj he
      refine w_caughtN C (pre := []) (x := ⟨0, 9, 12, 57⟩) (suf := []) rfl (fun z hz => by cases hz) rfl (by decide) le_L_57 ct_eNS dL_takeOff_12 (by decide) ?_
      refine w_iconst C dL_takeOff_13 ?_
      refine w_iret C hr dL_takeOff_14 rfl ⟨by rw [ho]; rfl, hR, fun h => by omega⟩ (by decide) (by decide)
    · cases he
  · obtain ⟨ho, rfl, hR⟩ := hP
    refine w_i2lA C dL_takeOff_7 ?_
    refine w_last C dL_takeOff_8 Nat.zero_lt_one LA_80 (by omega) ?_
    refine w_goto C dL_takeOff_9 ?_
    refine w_iconst C dL_takeOff_15 ?_
    exact w_iret C hr dL_takeOff_16 rfl ⟨by rw [ho]; rfl, hR.o80, fun _ => rfl⟩ (by decide) (by decide)
theorem h_rowOf (hl : l.stackTraces = false) {o : Res} {p0 : Int} (hcon : Con l b0 yX6_rowOf cX6_rowOf 2 (some .int) 10 1 6 [aO 0 0, aI p0] ad (cnt ns nt) M (okR o) (exR o [eNS])) : ConH l b0 yL_rowOf cL_rowOf 4 (some .int) [(0, 9, 12, 57)] 11 1 6 [aO 0 0, aI p0, aO 80 0] ad (cnt ns nt) M (wR o) := by
  refine ConH.of hl pl_L (Nat.le_of_ble_eq_true rfl) ?_
  intro D cA p e s m args below meth c C hr
  refine w_aload_n C dL_rowOf_0 rfl ?_
  refine w_iconst C dL_rowOf_1 ?_
  refine w_aload_n C dL_rowOf_2 rfl ?_
  refine w_iload_n C dL_rowOf_3 rfl ?_
  refine w_callV0 C dL_rowOf_4 hcon mX6_rowOf vX6_rowOf lk_L_62 Nat.zero_lt_one rfl rfl rfl rfl ⟨by decide, by decide, by decide, by decide⟩ (Nat.le_of_ble_eq_true rfl) (fun E M1 hX => ?_) (fun r1 M1 hP => ?_)
  · obtain ⟨i, he, ho, hR⟩ := hX
    rcases i with _ | i
    · obtain rfl := Option.some.inj he
      refine w_caughtN C (pre := []) (x := ⟨0, 9, 12, 57⟩) (suf := []) rfl (fun z hz => by cases hz) rfl (by decide) le_L_57 ct_eNS dL_rowOf_12 (by decide) ?_
      refine w_iconst C dL_rowOf_13 ?_
      refine w_iret C hr dL_rowOf_14 rfl ⟨by rw [ho]; rfl, hR, fun h => by omega⟩ (by decide) (by decide)
    · cases he
  · obtain ⟨ho, rfl, hR⟩ := hP
    refine w_i2lA C dL_rowOf_7 ?_
    refine w_last C dL_rowOf_8 Nat.zero_lt_one LA_80 (by omega) ?_
    refine w_goto C dL_rowOf_9 ?_
    refine w_iconst C dL_rowOf_15 ?_
    exact w_iret C hr dL_rowOf_16 rfl ⟨by rw [ho]; rfl, hR.o80, fun _ => rfl⟩ (by decide) (by decide)
theorem h_columnOf (hl : l.stackTraces = false) {o : Res} {p0 : Int} (hcon : Con l b0 yX6_columnOf cX6_columnOf 2 (some .int) 10 1 6 [aO 0 0, aI p0] ad (cnt ns nt) M (okR o) (exR o [eNS])) : ConH l b0 yL_columnOf cL_columnOf 4 (some .int) [(0, 9, 12, 57)] 11 1 6 [aO 0 0, aI p0, aO 80 0] ad (cnt ns nt) M (wR o) := by
  refine ConH.of hl pl_L (Nat.le_of_ble_eq_true rfl) ?_
  intro D cA p e s m args below meth c C hr
  refine w_aload_n C dL_columnOf_0 rfl ?_
  refine w_iconst C dL_columnOf_1 ?_
  refine w_aload_n C dL_columnOf_2 rfl ?_
  refine w_iload_n C dL_columnOf_3 rfl ?_
  refine w_callV0 C dL_columnOf_4 hcon mX6_columnOf vX6_columnOf lk_L_65 Nat.zero_lt_one rfl rfl rfl rfl ⟨by decide, by decide, by decide, by decide⟩ (Nat.le_of_ble_eq_true rfl) (fun E M1 hX => ?_) (fun r1 M1 hP => ?_)
  · obtain ⟨i, he, ho, hR⟩ := hX
    rcases i with _ | i
    · obtain rfl := Option.some.inj he
      refine w_caughtN C (pre := []) (x := ⟨0, 9, 12, 57⟩) (suf := []) rfl (fun z hz => by cases hz) rfl (by decide) le_L_57 ct_eNS dL_columnOf_12 (by decide) ?_
      refine w_iconst C dL_columnOf_13 ?_
      refine w_iret C hr dL_columnOf_14 rfl ⟨by rw [ho]; rfl, hR, fun h => by omega⟩ (by decide) (by decide)
    · cases he
  · obtain ⟨ho, rfl, hR⟩ := hP
    refine w_i2lA C dL_columnOf_7 ?_
    refine w_last C dL_columnOf_8 Nat.zero_lt_one LA_80 (by omega) ?_
    refine w_goto C dL_columnOf_9 ?_
    refine w_iconst C dL_columnOf_15 ?_
    exact w_iret C hr dL_columnOf_16 rfl ⟨by rw [ho]; rfl, hR.o80, fun _ => rfl⟩ (by decide) (by decide)
theorem h_turnsOf (hl : l.stackTraces = false) {o : Res} {p0 : Int} (hcon : Con l b0 yX6_turnsOf cX6_turnsOf 2 (some .int) 10 1 6 [aO 0 0, aI p0] ad (cnt ns nt) M (okR o) (exR o [eNS])) : ConH l b0 yL_turnsOf cL_turnsOf 4 (some .int) [(0, 9, 12, 57)] 11 1 6 [aO 0 0, aI p0, aO 80 0] ad (cnt ns nt) M (wR o) := by
  refine ConH.of hl pl_L (Nat.le_of_ble_eq_true rfl) ?_
  intro D cA p e s m args below meth c C hr
  refine w_aload_n C dL_turnsOf_0 rfl ?_
  refine w_iconst C dL_turnsOf_1 ?_
  refine w_aload_n C dL_turnsOf_2 rfl ?_
  refine w_iload_n C dL_turnsOf_3 rfl ?_
  refine w_callV0 C dL_turnsOf_4 hcon mX6_turnsOf vX6_turnsOf lk_L_68 Nat.zero_lt_one rfl rfl rfl rfl ⟨by decide, by decide, by decide, by decide⟩ (Nat.le_of_ble_eq_true rfl) (fun E M1 hX => ?_) (fun r1 M1 hP => ?_)
  · obtain ⟨i, he, ho, hR⟩ := hX
    rcases i with _ | i
    · obtain rfl := Option.some.inj he
      refine w_caughtN C (pre := []) (x := ⟨0, 9, 12, 57⟩) (suf := []) rfl (fun z hz => by cases hz) rfl (by decide) le_L_57 ct_eNS dL_turnsOf_12 (by decide) ?_
      refine w_iconst C dL_turnsOf_13 ?_
      refine w_iret C hr dL_turnsOf_14 rfl ⟨by rw [ho]; rfl, hR, fun h => by omega⟩ (by decide) (by decide)
    · cases he
  · obtain ⟨ho, rfl, hR⟩ := hP
    refine w_i2lA C dL_turnsOf_7 ?_
    refine w_last C dL_turnsOf_8 Nat.zero_lt_one LA_80 (by omega) ?_
    refine w_goto C dL_turnsOf_9 ?_
    refine w_iconst C dL_turnsOf_15 ?_
    exact w_iret C hr dL_turnsOf_16 rfl ⟨by rw [ho]; rfl, hR.o80, fun _ => rfl⟩ (by decide) (by decide)
theorem h_pieceAt (hl : l.stackTraces = false) {o : Res} {p0 p1 : Int} (hcon : Con l b0 yX6_pieceAt cX6_pieceAt 3 (some .int) 10 2 12 [aO 0 0, aI p0, aI p1] ad (cnt ns nt) M (okR o) (exR o [eIA, eIS])) : ConH l b0 yL_pieceAt cL_pieceAt 5 (some .int) [(0, 10, 13, 13), (0, 10, 17, 15)] 11 2 12 [aO 0 0, aI p0, aI p1, aO 80 0] ad (cnt ns nt) M (wR o) := by
  refine ConH.of hl pl_L (Nat.le_of_ble_eq_true rfl) ?_
  intro D cA p e s m args below meth c C hr
  refine w_aload_n C dL_pieceAt_0 rfl ?_
  refine w_iconst C dL_pieceAt_1 ?_
  refine w_aload_n C dL_pieceAt_2 rfl ?_
  refine w_iload_n C dL_pieceAt_3 rfl ?_
  refine w_iload_n C dL_pieceAt_4 rfl ?_
  refine w_callV0 C dL_pieceAt_5 hcon mX6_pieceAt vX6_pieceAt lk_L_71 Nat.zero_lt_one rfl rfl rfl rfl ⟨by decide, by decide, by decide, by decide⟩ (Nat.le_of_ble_eq_true rfl) (fun E M1 hX => ?_) (fun r1 M1 hP => ?_)
  · obtain ⟨i, he, ho, hR⟩ := hX
    rcases i with _ | _ | i
    · obtain rfl := Option.some.inj he
      refine w_caught C (pre := []) (x := ⟨0, 10, 13, 13⟩) (suf := [⟨0, 10, 17, 15⟩]) rfl (fun z hz => by cases hz) rfl (by decide) le_L_13 ct_eIA dL_pieceAt_13 (by decide) ?_
      refine w_iconst C dL_pieceAt_15 ?_
      refine w_iret C hr dL_pieceAt_16 rfl ⟨by rw [ho]; rfl, hR, fun h => by omega⟩ (by decide) (by decide)
    · obtain rfl := Option.some.inj he
      refine w_caught C (pre := [⟨0, 10, 13, 13⟩]) (x := ⟨0, 10, 17, 15⟩) (suf := []) rfl (fun z hz => by
        simp only [List.mem_cons, List.not_mem_nil, or_false] at hz
        rcases hz with rfl <;> refine ⟨by decide, ?_⟩
        · exact ⟨eIA, le_L_13, List.mem_of_getElem? (i := 5) (by decide +kernel)⟩) rfl (by decide) le_L_15 ct_eIS dL_pieceAt_17 (by decide) ?_
      refine w_iconst C dL_pieceAt_19 ?_
      refine w_iret C hr dL_pieceAt_20 rfl ⟨by rw [ho]; rfl, hR, fun h => by omega⟩ (by decide) (by decide)
    · cases he
  · obtain ⟨ho, rfl, hR⟩ := hP
    refine w_i2lA C dL_pieceAt_8 ?_
    refine w_last C dL_pieceAt_9 Nat.zero_lt_one LA_80 (by omega) ?_
    refine w_goto C dL_pieceAt_10 ?_
    refine w_iconst C dL_pieceAt_21 ?_
    exact w_iret C hr dL_pieceAt_22 rfl ⟨by rw [ho]; rfl, hR.o80, fun _ => rfl⟩ (by decide) (by decide)
theorem h_pieceByPieces (hl : l.stackTraces = false) {o : Res} {p0 p1 : Int} (hcon : Con l b0 yX6_pieceByPieces cX6_pieceByPieces 3 (some .int) 10 2 12 [aO 0 0, aI p0, aI p1] ad (cnt ns nt) M (okR o) (exR o [eIA, eIS])) : ConH l b0 yL_pieceByPieces cL_pieceByPieces 5 (some .int) [(0, 10, 13, 13), (0, 10, 17, 15)] 11 2 12 [aO 0 0, aI p0, aI p1, aO 80 0] ad (cnt ns nt) M (wR o) := by
  refine ConH.of hl pl_L (Nat.le_of_ble_eq_true rfl) ?_
  intro D cA p e s m args below meth c C hr
  refine w_aload_n C dL_pieceByPieces_0 rfl ?_
  refine w_iconst C dL_pieceByPieces_1 ?_
  refine w_aload_n C dL_pieceByPieces_2 rfl ?_
  refine w_iload_n C dL_pieceByPieces_3 rfl ?_
  refine w_iload_n C dL_pieceByPieces_4 rfl ?_
  refine w_callV0 C dL_pieceByPieces_5 hcon mX6_pieceByPieces vX6_pieceByPieces lk_L_74 Nat.zero_lt_one rfl rfl rfl rfl ⟨by decide, by decide, by decide, by decide⟩ (Nat.le_of_ble_eq_true rfl) (fun E M1 hX => ?_) (fun r1 M1 hP => ?_)
  · obtain ⟨i, he, ho, hR⟩ := hX
    rcases i with _ | _ | i
    · obtain rfl := Option.some.inj he
      refine w_caught C (pre := []) (x := ⟨0, 10, 13, 13⟩) (suf := [⟨0, 10, 17, 15⟩]) rfl (fun z hz => by cases hz) rfl (by decide) le_L_13 ct_eIA dL_pieceByPieces_13 (by decide) ?_
      refine w_iconst C dL_pieceByPieces_15 ?_
      refine w_iret C hr dL_pieceByPieces_16 rfl ⟨by rw [ho]; rfl, hR, fun h => by omega⟩ (by decide) (by decide)
    · obtain rfl := Option.some.inj he
      refine w_caught C (pre := [⟨0, 10, 13, 13⟩]) (x := ⟨0, 10, 17, 15⟩) (suf := []) rfl (fun z hz => by
        simp only [List.mem_cons, List.not_mem_nil, or_false] at hz
        rcases hz with rfl <;> refine ⟨by decide, ?_⟩
        · exact ⟨eIA, le_L_13, List.mem_of_getElem? (i := 5) (by decide +kernel)⟩) rfl (by decide) le_L_15 ct_eIS dL_pieceByPieces_17 (by decide) ?_
      refine w_iconst C dL_pieceByPieces_19 ?_
      refine w_iret C hr dL_pieceByPieces_20 rfl ⟨by rw [ho]; rfl, hR, fun h => by omega⟩ (by decide) (by decide)
    · cases he
  · obtain ⟨ho, rfl, hR⟩ := hP
    refine w_i2lA C dL_pieceByPieces_8 ?_
    refine w_last C dL_pieceByPieces_9 Nat.zero_lt_one LA_80 (by omega) ?_
    refine w_goto C dL_pieceByPieces_10 ?_
    refine w_iconst C dL_pieceByPieces_21 ?_
    exact w_iret C hr dL_pieceByPieces_22 rfl ⟨by rw [ho]; rfl, hR.o80, fun _ => rfl⟩ (by decide) (by decide)
theorem h_phase (hl : l.stackTraces = false) {o : Res} {p0 : Int} (hcon : Con l b0 yX6_phase cX6_phase 2 (some .int) 9 1 6 [aO 0 0, aI p0] ad (cnt ns nt) M (okR o) (exR o [eIA, eIS])) : ConH l b0 yL_phase cL_phase 4 (some .int) [(0, 9, 12, 13), (0, 9, 15, 15)] 10 1 6 [aO 0 0, aI p0, aO 80 0] ad (cnt ns nt) M (wR o) := by
  refine ConH.of hl pl_L (Nat.le_of_ble_eq_true rfl) ?_
  intro D cA p e s m args below meth c C hr
  refine w_aload_n C dL_phase_0 rfl ?_
  refine w_iconst C dL_phase_1 ?_
  refine w_aload_n C dL_phase_2 rfl ?_
  refine w_iload_n C dL_phase_3 rfl ?_
  refine w_callV0 C dL_phase_4 hcon mX6_phase vX6_phase lk_L_77 Nat.zero_lt_one rfl rfl rfl rfl ⟨by decide, by decide, by decide, by decide⟩ (Nat.le_of_ble_eq_true rfl) (fun E M1 hX => ?_) (fun r1 M1 hP => ?_)
  · obtain ⟨i, he, ho, hR⟩ := hX
    rcases i with _ | _ | i
    · obtain rfl := Option.some.inj he
      refine w_caughtN C (pre := []) (x := ⟨0, 9, 12, 13⟩) (suf := [⟨0, 9, 15, 15⟩]) rfl (fun z hz => by cases hz) rfl (by decide) le_L_13 ct_eIA dL_phase_12 (by decide) ?_
      refine w_iconst C dL_phase_13 ?_
      refine w_iret C hr dL_phase_14 rfl ⟨by rw [ho]; rfl, hR, fun h => by omega⟩ (by decide) (by decide)
    · obtain rfl := Option.some.inj he
      refine w_caughtN C (pre := [⟨0, 9, 12, 13⟩]) (x := ⟨0, 9, 15, 15⟩) (suf := []) rfl (fun z hz => by
        simp only [List.mem_cons, List.not_mem_nil, or_false] at hz
        rcases hz with rfl <;> refine ⟨by decide, ?_⟩
        · exact ⟨eIA, le_L_13, List.mem_of_getElem? (i := 5) (by decide +kernel)⟩) rfl (by decide) le_L_15 ct_eIS dL_phase_15 (by decide) ?_
      refine w_iconst C dL_phase_16 ?_
      refine w_iret C hr dL_phase_17 rfl ⟨by rw [ho]; rfl, hR, fun h => by omega⟩ (by decide) (by decide)
    · cases he
  · obtain ⟨ho, rfl, hR⟩ := hP
    refine w_i2lA C dL_phase_7 ?_
    refine w_last C dL_phase_8 Nat.zero_lt_one LA_80 (by omega) ?_
    refine w_goto C dL_phase_9 ?_
    refine w_iconst C dL_phase_18 ?_
    exact w_iret C hr dL_phase_19 rfl ⟨by rw [ho]; rfl, hR.o80, fun _ => rfl⟩ (by decide) (by decide)
theorem h_addPart (hl : l.stackTraces = false) {o : Res} {p0 p1 p2 : Int} (hcon : Con l b0 yX6_addPart cX6_addPart 5 (some .int) 10 3 18 [aO 0 0, aI p0, aI p1, aI p2] ad (cnt ns nt) M (okR o) (exR o [eIO, eIA, eUO])) : ConH l b0 yL_addPart cL_addPart 6 (some .int) [(0, 12, 15, 35), (0, 12, 19, 13), (0, 12, 23, 25)] 11 3 18 [aO 0 0, aI p0, aI p1, aI p2, aO 80 0] ad (cnt ns nt) M (wR o) := by
  refine ConH.of hl pl_L (Nat.le_of_ble_eq_true rfl) ?_
  intro D cA p e s m args below meth c C hr
  refine w_aload C dL_addPart_0 rfl ?_
  refine w_iconst C dL_addPart_2 ?_
  refine w_aload_n C dL_addPart_3 rfl ?_
  refine w_iload_n C dL_addPart_4 rfl ?_
  refine w_iload_n C dL_addPart_5 rfl ?_
  refine w_iload_n C dL_addPart_6 rfl ?_
  refine w_callV0 C dL_addPart_7 hcon mX6_addPart vX6_addPart lk_L_84 Nat.zero_lt_one rfl rfl rfl rfl ⟨by decide, by decide, by decide, by decide⟩ (Nat.le_of_ble_eq_true rfl) (fun E M1 hX => ?_) (fun r1 M1 hP => ?_)
  · obtain ⟨i, he, ho, hR⟩ := hX
    rcases i with _ | _ | _ | i
    · obtain rfl := Option.some.inj he
      refine w_caught C (pre := []) (x := ⟨0, 12, 15, 35⟩) (suf := [⟨0, 12, 19, 13⟩, ⟨0, 12, 23, 25⟩]) rfl (fun z hz => by cases hz) rfl (by decide) le_L_35 ct_eIO dL_addPart_15 (by decide) ?_
      refine w_iconst C dL_addPart_17 ?_
      refine w_iret C hr dL_addPart_18 rfl ⟨by rw [ho]; rfl, hR, fun h => by omega⟩ (by decide) (by decide)
    · obtain rfl := Option.some.inj he
      refine w_caught C (pre := [⟨0, 12, 15, 35⟩]) (x := ⟨0, 12, 19, 13⟩) (suf := [⟨0, 12, 23, 25⟩]) rfl (fun z hz => by
        simp only [List.mem_cons, List.not_mem_nil, or_false] at hz
        rcases hz with rfl <;> refine ⟨by decide, ?_⟩
        · exact ⟨eIO, le_L_35, List.mem_of_getElem? (i := 47) (by decide +kernel)⟩) rfl (by decide) le_L_13 ct_eIA dL_addPart_19 (by decide) ?_
      refine w_iconst C dL_addPart_21 ?_
      refine w_iret C hr dL_addPart_22 rfl ⟨by rw [ho]; rfl, hR, fun h => by omega⟩ (by decide) (by decide)
    · obtain rfl := Option.some.inj he
      refine w_caught C (pre := [⟨0, 12, 15, 35⟩, ⟨0, 12, 19, 13⟩]) (x := ⟨0, 12, 23, 25⟩) (suf := []) rfl (fun z hz => by
        simp only [List.mem_cons, List.not_mem_nil, or_false] at hz
        rcases hz with rfl | rfl <;> refine ⟨by decide, ?_⟩
        · exact ⟨eIO, le_L_35, List.mem_of_getElem? (i := 49) (by decide +kernel)⟩
        · exact ⟨eIA, le_L_13, List.mem_of_getElem? (i := 6) (by decide +kernel)⟩) rfl (by decide) le_L_25 ct_eUO dL_addPart_23 (by decide) ?_
      refine w_iconst C dL_addPart_25 ?_
      refine w_iret C hr dL_addPart_26 rfl ⟨by rw [ho]; rfl, hR, fun h => by omega⟩ (by decide) (by decide)
    · cases he
  · obtain ⟨ho, rfl, hR⟩ := hP
    refine w_i2lA C dL_addPart_10 ?_
    refine w_last C dL_addPart_11 Nat.zero_lt_one LA_80 (by omega) ?_
    refine w_goto C dL_addPart_12 ?_
    refine w_iconst C dL_addPart_27 ?_
    exact w_iret C hr dL_addPart_28 rfl ⟨by rw [ho]; rfl, hR.o80, fun _ => rfl⟩ (by decide) (by decide)
theorem h_piecesFor (hl : l.stackTraces = false) {o : Res} {p0 : Int} (hcon : Con l b0 yX6_piecesFor cX6_piecesFor 2 (some .int) 10 1 6 [aO 0 0, aI p0] ad (cnt ns nt) M (okR o) (exR o [eIO])) : ConH l b0 yL_piecesFor cL_piecesFor 4 (some .int) [(0, 9, 12, 35)] 11 1 6 [aO 0 0, aI p0, aO 80 0] ad (cnt ns nt) M (wR o) := by
  refine ConH.of hl pl_L (Nat.le_of_ble_eq_true rfl) ?_
  intro D cA p e s m args below meth c C hr
  refine w_aload_n C dL_piecesFor_0 rfl ?_
  refine w_iconst C dL_piecesFor_1 ?_
  refine w_aload_n C dL_piecesFor_2 rfl ?_
  refine w_iload_n C dL_piecesFor_3 rfl ?_
  refine w_callV0 C dL_piecesFor_4 hcon mX6_piecesFor vX6_piecesFor lk_L_87 Nat.zero_lt_one rfl rfl rfl rfl ⟨by decide, by decide, by decide, by decide⟩ (Nat.le_of_ble_eq_true rfl) (fun E M1 hX => ?_) (fun r1 M1 hP => ?_)
  · obtain ⟨i, he, ho, hR⟩ := hX
    rcases i with _ | i
    · obtain rfl := Option.some.inj he
      refine w_caughtN C (pre := []) (x := ⟨0, 9, 12, 35⟩) (suf := []) rfl (fun z hz => by cases hz) rfl (by decide) le_L_35 ct_eIO dL_piecesFor_12 (by decide) ?_
      refine w_iconst C dL_piecesFor_13 ?_
      refine w_iret C hr dL_piecesFor_14 rfl ⟨by rw [ho]; rfl, hR, fun h => by omega⟩ (by decide) (by decide)
    · cases he
  · obtain ⟨ho, rfl, hR⟩ := hP
    refine w_i2lA C dL_piecesFor_7 ?_
    refine w_last C dL_piecesFor_8 Nat.zero_lt_one LA_80 (by omega) ?_
    refine w_goto C dL_piecesFor_9 ?_
    refine w_iconst C dL_piecesFor_15 ?_
    exact w_iret C hr dL_piecesFor_16 rfl ⟨by rw [ho]; rfl, hR.o80, fun _ => rfl⟩ (by decide) (by decide)
theorem h_nestedLength (hl : l.stackTraces = false) {o : Res} {p0 : Int} (hcon : Con l b0 yX6_nestedLength cX6_nestedLength 3 (some .int) 17 3 18 [aO 0 0, aI p0] ad (cnt ns nt) M (okR o) (exR o [eIO, eUO, eIS])) : ConH l b0 yL_nestedLength cL_nestedLength 4 (some .int) [(0, 9, 12, 35), (0, 9, 15, 25), (0, 9, 18, 15)] 18 3 18 [aO 0 0, aI p0, aO 80 0] ad (cnt ns nt) M (wR o) := by
  refine ConH.of hl pl_L (Nat.le_of_ble_eq_true rfl) ?_
  intro D cA p e s m args below meth c C hr
  refine w_aload_n C dL_nestedLength_0 rfl ?_
  refine w_iconst C dL_nestedLength_1 ?_
  refine w_aload_n C dL_nestedLength_2 rfl ?_
  refine w_iload_n C dL_nestedLength_3 rfl ?_
  refine w_callV0 C dL_nestedLength_4 hcon mX6_nestedLength vX6_nestedLength lk_L_90 Nat.zero_lt_one rfl rfl rfl rfl ⟨by decide, by decide, by decide, by decide⟩ (Nat.le_of_ble_eq_true rfl) (fun E M1 hX => ?_) (fun r1 M1 hP => ?_)
  · obtain ⟨i, he, ho, hR⟩ := hX
    rcases i with _ | _ | _ | i
    · obtain rfl := Option.some.inj he
      refine w_caughtN C (pre := []) (x := ⟨0, 9, 12, 35⟩) (suf := [⟨0, 9, 15, 25⟩, ⟨0, 9, 18, 15⟩]) rfl (fun z hz => by cases hz) rfl (by decide) le_L_35 ct_eIO dL_nestedLength_12 (by decide) ?_
      refine w_iconst C dL_nestedLength_13 ?_
      refine w_iret C hr dL_nestedLength_14 rfl ⟨by rw [ho]; rfl, hR, fun h => by omega⟩ (by decide) (by decide)
    · obtain rfl := Option.some.inj he
      refine w_caughtN C (pre := [⟨0, 9, 12, 35⟩]) (x := ⟨0, 9, 15, 25⟩) (suf := [⟨0, 9, 18, 15⟩]) rfl (fun z hz => by
        simp only [List.mem_cons, List.not_mem_nil, or_false] at hz
        rcases hz with rfl <;> refine ⟨by decide, ?_⟩
        · exact ⟨eIO, le_L_35, List.mem_of_getElem? (i := 49) (by decide +kernel)⟩) rfl (by decide) le_L_25 ct_eUO dL_nestedLength_15 (by decide) ?_
      refine w_iconst C dL_nestedLength_16 ?_
      refine w_iret C hr dL_nestedLength_17 rfl ⟨by rw [ho]; rfl, hR, fun h => by omega⟩ (by decide) (by decide)
    · obtain rfl := Option.some.inj he
      refine w_caughtN C (pre := [⟨0, 9, 12, 35⟩, ⟨0, 9, 15, 25⟩]) (x := ⟨0, 9, 18, 15⟩) (suf := []) rfl (fun z hz => by
        simp only [List.mem_cons, List.not_mem_nil, or_false] at hz
        rcases hz with rfl | rfl <;> refine ⟨by decide, ?_⟩
        · exact ⟨eIO, le_L_35, List.mem_of_getElem? (i := 48) (by decide +kernel)⟩
        · exact ⟨eUO, le_L_25, List.mem_of_getElem? (i := 34) (by decide +kernel)⟩) rfl (by decide) le_L_15 ct_eIS dL_nestedLength_18 (by decide) ?_
      refine w_iconst C dL_nestedLength_19 ?_
      refine w_iret C hr dL_nestedLength_20 rfl ⟨by rw [ho]; rfl, hR, fun h => by omega⟩ (by decide) (by decide)
    · cases he
  · obtain ⟨ho, rfl, hR⟩ := hP
    refine w_i2lA C dL_nestedLength_7 ?_
    refine w_last C dL_nestedLength_8 Nat.zero_lt_one LA_80 (by omega) ?_
    refine w_goto C dL_nestedLength_9 ?_
    refine w_iconst C dL_nestedLength_21 ?_
    exact w_iret C hr dL_nestedLength_22 rfl ⟨by rw [ho]; rfl, hR.o80, fun _ => rfl⟩ (by decide) (by decide)
theorem h_nestedByTrying (hl : l.stackTraces = false) {o : Res} {p0 : Int} (hcon : Con l b0 yX6_nestedByTrying cX6_nestedByTrying 6 (some .int) 10 3 18 [aO 0 0, aI p0] ad (cnt ns nt) M (okR o) (exR o [eIO, eUO, eIS])) : ConH l b0 yL_nestedByTrying cL_nestedByTrying 4 (some .int) [(0, 9, 12, 35), (0, 9, 15, 25), (0, 9, 18, 15)] 11 3 18 [aO 0 0, aI p0, aO 80 0] ad (cnt ns nt) M (wR o) := by
  refine ConH.of hl pl_L (Nat.le_of_ble_eq_true rfl) ?_
  intro D cA p e s m args below meth c C hr
  refine w_aload_n C dL_nestedByTrying_0 rfl ?_
  refine w_iconst C dL_nestedByTrying_1 ?_
  refine w_aload_n C dL_nestedByTrying_2 rfl ?_
  refine w_iload_n C dL_nestedByTrying_3 rfl ?_
  refine w_callV0 C dL_nestedByTrying_4 hcon mX6_nestedByTrying vX6_nestedByTrying lk_L_93 Nat.zero_lt_one rfl rfl rfl rfl ⟨by decide, by decide, by decide, by decide⟩ (Nat.le_of_ble_eq_true rfl) (fun E M1 hX => ?_) (fun r1 M1 hP => ?_)
  · obtain ⟨i, he, ho, hR⟩ := hX
    rcases i with _ | _ | _ | i
    · obtain rfl := Option.some.inj he
      refine w_caughtN C (pre := []) (x := ⟨0, 9, 12, 35⟩) (suf := [⟨0, 9, 15, 25⟩, ⟨0, 9, 18, 15⟩]) rfl (fun z hz => by cases hz) rfl (by decide) le_L_35 ct_eIO dL_nestedByTrying_12 (by decide) ?_
      refine w_iconst C dL_nestedByTrying_13 ?_
      refine w_iret C hr dL_nestedByTrying_14 rfl ⟨by rw [ho]; rfl, hR, fun h => by omega⟩ (by decide) (by decide)
    · obtain rfl := Option.some.inj he
      refine w_caughtN C (pre := [⟨0, 9, 12, 35⟩]) (x := ⟨0, 9, 15, 25⟩) (suf := [⟨0, 9, 18, 15⟩]) rfl (fun z hz => by
        simp only [List.mem_cons, List.not_mem_nil, or_false] at hz
        rcases hz with rfl <;> refine ⟨by decide, ?_⟩
        · exact ⟨eIO, le_L_35, List.mem_of_getElem? (i := 49) (by decide +kernel)⟩) rfl (by decide) le_L_25 ct_eUO dL_nestedByTrying_15 (by decide) ?_
      refine w_iconst C dL_nestedByTrying_16 ?_
      refine w_iret C hr dL_nestedByTrying_17 rfl ⟨by rw [ho]; rfl, hR, fun h => by omega⟩ (by decide) (by decide)
    · obtain rfl := Option.some.inj he
      refine w_caughtN C (pre := [⟨0, 9, 12, 35⟩, ⟨0, 9, 15, 25⟩]) (x := ⟨0, 9, 18, 15⟩) (suf := []) rfl (fun z hz => by
        simp only [List.mem_cons, List.not_mem_nil, or_false] at hz
        rcases hz with rfl | rfl <;> refine ⟨by decide, ?_⟩
        · exact ⟨eIO, le_L_35, List.mem_of_getElem? (i := 48) (by decide +kernel)⟩
        · exact ⟨eUO, le_L_25, List.mem_of_getElem? (i := 34) (by decide +kernel)⟩) rfl (by decide) le_L_15 ct_eIS dL_nestedByTrying_18 (by decide) ?_
      refine w_iconst C dL_nestedByTrying_19 ?_
      refine w_iret C hr dL_nestedByTrying_20 rfl ⟨by rw [ho]; rfl, hR, fun h => by omega⟩ (by decide) (by decide)
    · cases he
  · obtain ⟨ho, rfl, hR⟩ := hP
    refine w_i2lA C dL_nestedByTrying_7 ?_
    refine w_last C dL_nestedByTrying_8 Nat.zero_lt_one LA_80 (by omega) ?_
    refine w_goto C dL_nestedByTrying_9 ?_
    refine w_iconst C dL_nestedByTrying_21 ?_
    exact w_iret C hr dL_nestedByTrying_22 rfl ⟨by rw [ho]; rfl, hR.o80, fun _ => rfl⟩ (by decide) (by decide)
theorem h_addCloth (hl : l.stackTraces = false) {o : Res} {p0 : Int} (hcon : Con l b0 yX6_addCloth cX6_addCloth 2 (some .int) 9 1 6 [aO 0 0, aI p0] ad (cnt ns nt) M (okR o) (exR o [eIA])) : ConH l b0 yL_addCloth cL_addCloth 4 (some .int) [(0, 9, 12, 13)] 10 1 6 [aO 0 0, aI p0, aO 80 0] ad (cnt ns nt) M (wR o) := by
  refine ConH.of hl pl_L (Nat.le_of_ble_eq_true rfl) ?_
  intro D cA p e s m args below meth c C hr
  refine w_aload_n C dL_addCloth_0 rfl ?_
  refine w_iconst C dL_addCloth_1 ?_
  refine w_aload_n C dL_addCloth_2 rfl ?_
  refine w_iload_n C dL_addCloth_3 rfl ?_
  refine w_callV0 C dL_addCloth_4 hcon mX6_addCloth vX6_addCloth lk_L_96 Nat.zero_lt_one rfl rfl rfl rfl ⟨by decide, by decide, by decide, by decide⟩ (Nat.le_of_ble_eq_true rfl) (fun E M1 hX => ?_) (fun r1 M1 hP => ?_)
  · obtain ⟨i, he, ho, hR⟩ := hX
    rcases i with _ | i
    · obtain rfl := Option.some.inj he
      refine w_caughtN C (pre := []) (x := ⟨0, 9, 12, 13⟩) (suf := []) rfl (fun z hz => by cases hz) rfl (by decide) le_L_13 ct_eIA dL_addCloth_12 (by decide) ?_
      refine w_iconst C dL_addCloth_13 ?_
      refine w_iret C hr dL_addCloth_14 rfl ⟨by rw [ho]; rfl, hR, fun h => by omega⟩ (by decide) (by decide)
    · cases he
  · obtain ⟨ho, rfl, hR⟩ := hP
    refine w_i2lA C dL_addCloth_7 ?_
    refine w_last C dL_addCloth_8 Nat.zero_lt_one LA_80 (by omega) ?_
    refine w_goto C dL_addCloth_9 ?_
    refine w_iconst C dL_addCloth_15 ?_
    exact w_iret C hr dL_addCloth_16 rfl ⟨by rw [ho]; rfl, hR.o80, fun _ => rfl⟩ (by decide) (by decide)
theorem h_spread (hl : l.stackTraces = false) {o : Res} {p0 : Int} (hcon : Con l b0 yX6_spread cX6_spread 4 (some .int) 9 1 6 [aO 0 0, aI p0] ad (cnt ns nt) M (okR o) (exR o [eIA, eUO, eIS])) : ConH l b0 yL_spread cL_spread 4 (some .int) [(0, 9, 12, 13), (0, 9, 15, 25), (0, 9, 18, 15)] 10 1 6 [aO 0 0, aI p0, aO 80 0] ad (cnt ns nt) M (wR o) := by
  refine ConH.of hl pl_L (Nat.le_of_ble_eq_true rfl) ?_
  intro D cA p e s m args below meth c C hr
  refine w_aload_n C dL_spread_0 rfl ?_
  refine w_iconst C dL_spread_1 ?_
  refine w_aload_n C dL_spread_2 rfl ?_
  refine w_iload_n C dL_spread_3 rfl ?_
  refine w_callV0 C dL_spread_4 hcon mX6_spread vX6_spread lk_L_99 Nat.zero_lt_one rfl rfl rfl rfl ⟨by decide, by decide, by decide, by decide⟩ (Nat.le_of_ble_eq_true rfl) (fun E M1 hX => ?_) (fun r1 M1 hP => ?_)
  · obtain ⟨i, he, ho, hR⟩ := hX
    rcases i with _ | _ | _ | i
    · obtain rfl := Option.some.inj he
      refine w_caughtN C (pre := []) (x := ⟨0, 9, 12, 13⟩) (suf := [⟨0, 9, 15, 25⟩, ⟨0, 9, 18, 15⟩]) rfl (fun z hz => by cases hz) rfl (by decide) le_L_13 ct_eIA dL_spread_12 (by decide) ?_
      refine w_iconst C dL_spread_13 ?_
      refine w_iret C hr dL_spread_14 rfl ⟨by rw [ho]; rfl, hR, fun h => by omega⟩ (by decide) (by decide)
    · obtain rfl := Option.some.inj he
      refine w_caughtN C (pre := [⟨0, 9, 12, 13⟩]) (x := ⟨0, 9, 15, 25⟩) (suf := [⟨0, 9, 18, 15⟩]) rfl (fun z hz => by
        simp only [List.mem_cons, List.not_mem_nil, or_false] at hz
        rcases hz with rfl <;> refine ⟨by decide, ?_⟩
        · exact ⟨eIA, le_L_13, List.mem_of_getElem? (i := 6) (by decide +kernel)⟩) rfl (by decide) le_L_25 ct_eUO dL_spread_15 (by decide) ?_
      refine w_iconst C dL_spread_16 ?_
      refine w_iret C hr dL_spread_17 rfl ⟨by rw [ho]; rfl, hR, fun h => by omega⟩ (by decide) (by decide)
    · obtain rfl := Option.some.inj he
      refine w_caughtN C (pre := [⟨0, 9, 12, 13⟩, ⟨0, 9, 15, 25⟩]) (x := ⟨0, 9, 18, 15⟩) (suf := []) rfl (fun z hz => by
        simp only [List.mem_cons, List.not_mem_nil, or_false] at hz
        rcases hz with rfl | rfl <;> refine ⟨by decide, ?_⟩
        · exact ⟨eIA, le_L_13, List.mem_of_getElem? (i := 5) (by decide +kernel)⟩
        · exact ⟨eUO, le_L_25, List.mem_of_getElem? (i := 34) (by decide +kernel)⟩) rfl (by decide) le_L_15 ct_eIS dL_spread_18 (by decide) ?_
      refine w_iconst C dL_spread_19 ?_
      refine w_iret C hr dL_spread_20 rfl ⟨by rw [ho]; rfl, hR, fun h => by omega⟩ (by decide) (by decide)
    · cases he
  · obtain ⟨ho, rfl, hR⟩ := hP
    refine w_i2lA C dL_spread_7 ?_
    refine w_last C dL_spread_8 Nat.zero_lt_one LA_80 (by omega) ?_
    refine w_goto C dL_spread_9 ?_
    refine w_iconst C dL_spread_21 ?_
    exact w_iret C hr dL_spread_22 rfl ⟨by rw [ho]; rfl, hR.o80, fun _ => rfl⟩ (by decide) (by decide)
theorem h_pieces (hl : l.stackTraces = false) {o : Res} {p0 p1 : Int} (hcon : Con l b0 yX6_pieces cX6_pieces 4 (some .int) 10 2 12 [aO 0 0, aI p0, aI p1] ad (cnt ns nt) M (okR o) (exR o [eIO, eUO])) : ConH l b0 yL_pieces cL_pieces 5 (some .int) [(0, 10, 13, 35), (0, 10, 17, 25)] 11 2 12 [aO 0 0, aI p0, aI p1, aO 80 0] ad (cnt ns nt) M (wR o) := by
  refine ConH.of hl pl_L (Nat.le_of_ble_eq_true rfl) ?_
  intro D cA p e s m args below meth c C hr
  refine w_aload_n C dL_pieces_0 rfl ?_
  refine w_iconst C dL_pieces_1 ?_
  refine w_aload_n C dL_pieces_2 rfl ?_
  refine w_iload_n C dL_pieces_3 rfl ?_
  refine w_iload_n C dL_pieces_4 rfl ?_
  refine w_callV0 C dL_pieces_5 hcon mX6_pieces vX6_pieces lk_L_102 Nat.zero_lt_one rfl rfl rfl rfl ⟨by decide, by decide, by decide, by decide⟩ (Nat.le_of_ble_eq_true rfl) (fun E M1 hX => ?_) (fun r1 M1 hP => ?_)
  · obtain ⟨i, he, ho, hR⟩ := hX
    rcases i with _ | _ | i
    · obtain rfl := Option.some.inj he
      refine w_caught C (pre := []) (x := ⟨0, 10, 13, 35⟩) (suf := [⟨0, 10, 17, 25⟩]) rfl (fun z hz => by cases hz) rfl (by decide) le_L_35 ct_eIO dL_pieces_13 (by decide) ?_
      refine w_iconst C dL_pieces_15 ?_
      refine w_iret C hr dL_pieces_16 rfl ⟨by rw [ho]; rfl, hR, fun h => by omega⟩ (by decide) (by decide)
    · obtain rfl := Option.some.inj he
      refine w_caught C (pre := [⟨0, 10, 13, 35⟩]) (x := ⟨0, 10, 17, 25⟩) (suf := []) rfl (fun z hz => by
        simp only [List.mem_cons, List.not_mem_nil, or_false] at hz
        rcases hz with rfl <;> refine ⟨by decide, ?_⟩
        · exact ⟨eIO, le_L_35, List.mem_of_getElem? (i := 49) (by decide +kernel)⟩) rfl (by decide) le_L_25 ct_eUO dL_pieces_17 (by decide) ?_
      refine w_iconst C dL_pieces_19 ?_
      refine w_iret C hr dL_pieces_20 rfl ⟨by rw [ho]; rfl, hR, fun h => by omega⟩ (by decide) (by decide)
    · cases he
  · obtain ⟨ho, rfl, hR⟩ := hP
    refine w_i2lA C dL_pieces_8 ?_
    refine w_last C dL_pieces_9 Nat.zero_lt_one LA_80 (by omega) ?_
    refine w_goto C dL_pieces_10 ?_
    refine w_iconst C dL_pieces_21 ?_
    exact w_iret C hr dL_pieces_22 rfl ⟨by rw [ho]; rfl, hR.o80, fun _ => rfl⟩ (by decide) (by decide)
theorem h_canMake (hl : l.stackTraces = false) {o : Res} {p0 : Int} (hcon : Con l b0 yX6_canMake cX6_canMake 2 (some .int) 11 2 12 [aO 0 0, aI p0] ad (cnt ns nt) M (okR o) (exR o [eIO, eUO])) : ConH l b0 yL_canMake cL_canMake 4 (some .int) [(0, 9, 12, 35), (0, 9, 15, 25)] 12 2 12 [aO 0 0, aI p0, aO 80 0] ad (cnt ns nt) M (wR o) := by
  refine ConH.of hl pl_L (Nat.le_of_ble_eq_true rfl) ?_
  intro D cA p e s m args below meth c C hr
  refine w_aload_n C dL_canMake_0 rfl ?_
  refine w_iconst C dL_canMake_1 ?_
  refine w_aload_n C dL_canMake_2 rfl ?_
  refine w_iload_n C dL_canMake_3 rfl ?_
  refine w_callV0 C dL_canMake_4 hcon mX6_canMake vX6_canMake lk_L_105 Nat.zero_lt_one rfl rfl rfl rfl ⟨by decide, by decide, by decide, by decide⟩ (Nat.le_of_ble_eq_true rfl) (fun E M1 hX => ?_) (fun r1 M1 hP => ?_)
  · obtain ⟨i, he, ho, hR⟩ := hX
    rcases i with _ | _ | i
    · obtain rfl := Option.some.inj he
      refine w_caughtN C (pre := []) (x := ⟨0, 9, 12, 35⟩) (suf := [⟨0, 9, 15, 25⟩]) rfl (fun z hz => by cases hz) rfl (by decide) le_L_35 ct_eIO dL_canMake_12 (by decide) ?_
      refine w_iconst C dL_canMake_13 ?_
      refine w_iret C hr dL_canMake_14 rfl ⟨by rw [ho]; rfl, hR, fun h => by omega⟩ (by decide) (by decide)
    · obtain rfl := Option.some.inj he
      refine w_caughtN C (pre := [⟨0, 9, 12, 35⟩]) (x := ⟨0, 9, 15, 25⟩) (suf := []) rfl (fun z hz => by
        simp only [List.mem_cons, List.not_mem_nil, or_false] at hz
        rcases hz with rfl <;> refine ⟨by decide, ?_⟩
        · exact ⟨eIO, le_L_35, List.mem_of_getElem? (i := 49) (by decide +kernel)⟩) rfl (by decide) le_L_25 ct_eUO dL_canMake_15 (by decide) ?_
      refine w_iconst C dL_canMake_16 ?_
      refine w_iret C hr dL_canMake_17 rfl ⟨by rw [ho]; rfl, hR, fun h => by omega⟩ (by decide) (by decide)
    · cases he
  · obtain ⟨ho, rfl, hR⟩ := hP
    refine w_i2lA C dL_canMake_7 ?_
    refine w_last C dL_canMake_8 Nat.zero_lt_one LA_80 (by omega) ?_
    refine w_goto C dL_canMake_9 ?_
    refine w_iconst C dL_canMake_18 ?_
    exact w_iret C hr dL_canMake_19 rfl ⟨by rw [ho]; rfl, hR.o80, fun _ => rfl⟩ (by decide) (by decide)
theorem h_canMakeByTaking (hl : l.stackTraces = false) {o : Res} {p0 : Int} (hcon : Con l b0 yX6_canMakeByTaking cX6_canMakeByTaking 5 (some .int) 11 2 12 [aO 0 0, aI p0] ad (cnt ns nt) M (okR o) (exR o [eIO, eUO])) : ConH l b0 yL_canMakeByTaking cL_canMakeByTaking 4 (some .int) [(0, 9, 12, 35), (0, 9, 15, 25)] 12 2 12 [aO 0 0, aI p0, aO 80 0] ad (cnt ns nt) M (wR o) := by
  refine ConH.of hl pl_L (Nat.le_of_ble_eq_true rfl) ?_
  intro D cA p e s m args below meth c C hr
  refine w_aload_n C dL_canMakeByTaking_0 rfl ?_
  refine w_iconst C dL_canMakeByTaking_1 ?_
  refine w_aload_n C dL_canMakeByTaking_2 rfl ?_
  refine w_iload_n C dL_canMakeByTaking_3 rfl ?_
  refine w_callV0 C dL_canMakeByTaking_4 hcon mX6_canMakeByTaking vX6_canMakeByTaking lk_L_108 Nat.zero_lt_one rfl rfl rfl rfl ⟨by decide, by decide, by decide, by decide⟩ (Nat.le_of_ble_eq_true rfl) (fun E M1 hX => ?_) (fun r1 M1 hP => ?_)
  · obtain ⟨i, he, ho, hR⟩ := hX
    rcases i with _ | _ | i
    · obtain rfl := Option.some.inj he
      refine w_caughtN C (pre := []) (x := ⟨0, 9, 12, 35⟩) (suf := [⟨0, 9, 15, 25⟩]) rfl (fun z hz => by cases hz) rfl (by decide) le_L_35 ct_eIO dL_canMakeByTaking_12 (by decide) ?_
      refine w_iconst C dL_canMakeByTaking_13 ?_
      refine w_iret C hr dL_canMakeByTaking_14 rfl ⟨by rw [ho]; rfl, hR, fun h => by omega⟩ (by decide) (by decide)
    · obtain rfl := Option.some.inj he
      refine w_caughtN C (pre := [⟨0, 9, 12, 35⟩]) (x := ⟨0, 9, 15, 25⟩) (suf := []) rfl (fun z hz => by
        simp only [List.mem_cons, List.not_mem_nil, or_false] at hz
        rcases hz with rfl <;> refine ⟨by decide, ?_⟩
        · exact ⟨eIO, le_L_35, List.mem_of_getElem? (i := 49) (by decide +kernel)⟩) rfl (by decide) le_L_25 ct_eUO dL_canMakeByTaking_15 (by decide) ?_
      refine w_iconst C dL_canMakeByTaking_16 ?_
      refine w_iret C hr dL_canMakeByTaking_17 rfl ⟨by rw [ho]; rfl, hR, fun h => by omega⟩ (by decide) (by decide)
    · cases he
  · obtain ⟨ho, rfl, hR⟩ := hP
    refine w_i2lA C dL_canMakeByTaking_7 ?_
    refine w_last C dL_canMakeByTaking_8 Nat.zero_lt_one LA_80 (by omega) ?_
    refine w_goto C dL_canMakeByTaking_9 ?_
    refine w_iconst C dL_canMakeByTaking_18 ?_
    exact w_iret C hr dL_canMakeByTaking_19 rfl ⟨by rw [ho]; rfl, hR.o80, fun _ => rfl⟩ (by decide) (by decide)
theorem h_make (hl : l.stackTraces = false) {o : Res} {p0 p1 : Int} (hcon : Con l b0 yX6_make cX6_make 6 (some .int) 11 5 30 [aO 0 0, aI p0, aI p1] ad (cnt ns nt) M (okR o) (exR o [eIO, eIA, eUO, eIS])) : ConH l b0 yL_make cL_make 5 (some .int) [(0, 10, 13, 35), (0, 10, 17, 13), (0, 10, 21, 25), (0, 10, 25, 15)] 12 5 30 [aO 0 0, aI p0, aI p1, aO 80 0] ad (cnt ns nt) M (wR o) := by
  refine ConH.of hl pl_L (Nat.le_of_ble_eq_true rfl) ?_
  intro D cA p e s m args below meth c C hr
  refine w_aload_n C dL_make_0 rfl ?_
  refine w_iconst C dL_make_1 ?_
  refine w_aload_n C dL_make_2 rfl ?_
  refine w_iload_n C dL_make_3 rfl ?_
  refine w_iload_n C dL_make_4 rfl ?_
  refine w_callV0 C dL_make_5 hcon mX6_make vX6_make lk_L_111 Nat.zero_lt_one rfl rfl rfl rfl ⟨by decide, by decide, by decide, by decide⟩ (Nat.le_of_ble_eq_true rfl) (fun E M1 hX => ?_) (fun r1 M1 hP => ?_)
  · obtain ⟨i, he, ho, hR⟩ := hX
    rcases i with _ | _ | _ | _ | i
    · obtain rfl := Option.some.inj he
      refine w_caught C (pre := []) (x := ⟨0, 10, 13, 35⟩) (suf := [⟨0, 10, 17, 13⟩, ⟨0, 10, 21, 25⟩, ⟨0, 10, 25, 15⟩]) rfl (fun z hz => by cases hz) rfl (by decide) le_L_35 ct_eIO dL_make_13 (by decide) ?_
      refine w_iconst C dL_make_15 ?_
      refine w_iret C hr dL_make_16 rfl ⟨by rw [ho]; rfl, hR, fun h => by omega⟩ (by decide) (by decide)
    · obtain rfl := Option.some.inj he
      refine w_caught C (pre := [⟨0, 10, 13, 35⟩]) (x := ⟨0, 10, 17, 13⟩) (suf := [⟨0, 10, 21, 25⟩, ⟨0, 10, 25, 15⟩]) rfl (fun z hz => by
        simp only [List.mem_cons, List.not_mem_nil, or_false] at hz
        rcases hz with rfl <;> refine ⟨by decide, ?_⟩
        · exact ⟨eIO, le_L_35, List.mem_of_getElem? (i := 47) (by decide +kernel)⟩) rfl (by decide) le_L_13 ct_eIA dL_make_17 (by decide) ?_
      refine w_iconst C dL_make_19 ?_
      refine w_iret C hr dL_make_20 rfl ⟨by rw [ho]; rfl, hR, fun h => by omega⟩ (by decide) (by decide)
    · obtain rfl := Option.some.inj he
      refine w_caught C (pre := [⟨0, 10, 13, 35⟩, ⟨0, 10, 17, 13⟩]) (x := ⟨0, 10, 21, 25⟩) (suf := [⟨0, 10, 25, 15⟩]) rfl (fun z hz => by
        simp only [List.mem_cons, List.not_mem_nil, or_false] at hz
        rcases hz with rfl | rfl <;> refine ⟨by decide, ?_⟩
        · exact ⟨eIO, le_L_35, List.mem_of_getElem? (i := 49) (by decide +kernel)⟩
        · exact ⟨eIA, le_L_13, List.mem_of_getElem? (i := 6) (by decide +kernel)⟩) rfl (by decide) le_L_25 ct_eUO dL_make_21 (by decide) ?_
      refine w_iconst C dL_make_23 ?_
      refine w_iret C hr dL_make_24 rfl ⟨by rw [ho]; rfl, hR, fun h => by omega⟩ (by decide) (by decide)
    · obtain rfl := Option.some.inj he
      refine w_caught C (pre := [⟨0, 10, 13, 35⟩, ⟨0, 10, 17, 13⟩, ⟨0, 10, 21, 25⟩]) (x := ⟨0, 10, 25, 15⟩) (suf := []) rfl (fun z hz => by
        simp only [List.mem_cons, List.not_mem_nil, or_false] at hz
        rcases hz with rfl | rfl | rfl <;> refine ⟨by decide, ?_⟩
        · exact ⟨eIO, le_L_35, List.mem_of_getElem? (i := 48) (by decide +kernel)⟩
        · exact ⟨eIA, le_L_13, List.mem_of_getElem? (i := 5) (by decide +kernel)⟩
        · exact ⟨eUO, le_L_25, List.mem_of_getElem? (i := 34) (by decide +kernel)⟩) rfl (by decide) le_L_15 ct_eIS dL_make_25 (by decide) ?_
      refine w_iconst C dL_make_27 ?_
      refine w_iret C hr dL_make_28 rfl ⟨by rw [ho]; rfl, hR, fun h => by omega⟩ (by decide) (by decide)
    · cases he
  · obtain ⟨ho, rfl, hR⟩ := hP
    refine w_i2lA C dL_make_8 ?_
    refine w_last C dL_make_9 Nat.zero_lt_one LA_80 (by omega) ?_
    refine w_goto C dL_make_10 ?_
    refine w_iconst C dL_make_29 ?_
    exact w_iret C hr dL_make_30 rfl ⟨by rw [ho]; rfl, hR.o80, fun _ => rfl⟩ (by decide) (by decide)
theorem h_made (hl : l.stackTraces = false) {o : Res} {p0 : Int} (hcon : Con l b0 yX6_made cX6_made 2 (some .int) 10 1 6 [aO 0 0, aI p0] ad (cnt ns nt) M (okR o) (exR o [eIO])) : ConH l b0 yL_made cL_made 4 (some .int) [(0, 9, 12, 35)] 11 1 6 [aO 0 0, aI p0, aO 80 0] ad (cnt ns nt) M (wR o) := by
  refine ConH.of hl pl_L (Nat.le_of_ble_eq_true rfl) ?_
  intro D cA p e s m args below meth c C hr
  refine w_aload_n C dL_made_0 rfl ?_
  refine w_iconst C dL_made_1 ?_
  refine w_aload_n C dL_made_2 rfl ?_
  refine w_iload_n C dL_made_3 rfl ?_
  refine w_callV0 C dL_made_4 hcon mX6_made vX6_made lk_L_114 Nat.zero_lt_one rfl rfl rfl rfl ⟨by decide, by decide, by decide, by decide⟩ (Nat.le_of_ble_eq_true rfl) (fun E M1 hX => ?_) (fun r1 M1 hP => ?_)
  · obtain ⟨i, he, ho, hR⟩ := hX
    rcases i with _ | i
    · obtain rfl := Option.some.inj he
      refine w_caughtN C (pre := []) (x := ⟨0, 9, 12, 35⟩) (suf := []) rfl (fun z hz => by cases hz) rfl (by decide) le_L_35 ct_eIO dL_made_12 (by decide) ?_
      refine w_iconst C dL_made_13 ?_
      refine w_iret C hr dL_made_14 rfl ⟨by rw [ho]; rfl, hR, fun h => by omega⟩ (by decide) (by decide)
    · cases he
  · obtain ⟨ho, rfl, hR⟩ := hP
    refine w_i2lA C dL_made_7 ?_
    refine w_last C dL_made_8 Nat.zero_lt_one LA_80 (by omega) ?_
    refine w_goto C dL_made_9 ?_
    refine w_iconst C dL_made_15 ?_
    exact w_iret C hr dL_made_16 rfl ⟨by rw [ho]; rfl, hR.o80, fun _ => rfl⟩ (by decide) (by decide)
theorem h_pliesFor (hl : l.stackTraces = false) {o : Res} {p0 p1 : Int} (hcon : Con l b0 yX6_pliesFor cX6_pliesFor 7 (some .int) 11 5 30 [aO 0 0, aI p0, aI p1] ad (cnt ns nt) M (okR o) (exR o [eIO, eIA, eUO, eIS])) : ConH l b0 yL_pliesFor cL_pliesFor 5 (some .int) [(0, 10, 13, 35), (0, 10, 17, 13), (0, 10, 21, 25), (0, 10, 25, 15)] 12 5 30 [aO 0 0, aI p0, aI p1, aO 80 0] ad (cnt ns nt) M (wR o) := by
  refine ConH.of hl pl_L (Nat.le_of_ble_eq_true rfl) ?_
  intro D cA p e s m args below meth c C hr
  refine w_aload_n C dL_pliesFor_0 rfl ?_
  refine w_iconst C dL_pliesFor_1 ?_
  refine w_aload_n C dL_pliesFor_2 rfl ?_
  refine w_iload_n C dL_pliesFor_3 rfl ?_
  refine w_iload_n C dL_pliesFor_4 rfl ?_
  refine w_callV0 C dL_pliesFor_5 hcon mX6_pliesFor vX6_pliesFor lk_L_117 Nat.zero_lt_one rfl rfl rfl rfl ⟨by decide, by decide, by decide, by decide⟩ (Nat.le_of_ble_eq_true rfl) (fun E M1 hX => ?_) (fun r1 M1 hP => ?_)
  · obtain ⟨i, he, ho, hR⟩ := hX
    rcases i with _ | _ | _ | _ | i
    · obtain rfl := Option.some.inj he
      refine w_caught C (pre := []) (x := ⟨0, 10, 13, 35⟩) (suf := [⟨0, 10, 17, 13⟩, ⟨0, 10, 21, 25⟩, ⟨0, 10, 25, 15⟩]) rfl (fun z hz => by cases hz) rfl (by decide) le_L_35 ct_eIO dL_pliesFor_13 (by decide) ?_
      refine w_iconst C dL_pliesFor_15 ?_
      refine w_iret C hr dL_pliesFor_16 rfl ⟨by rw [ho]; rfl, hR, fun h => by omega⟩ (by decide) (by decide)
    · obtain rfl := Option.some.inj he
      refine w_caught C (pre := [⟨0, 10, 13, 35⟩]) (x := ⟨0, 10, 17, 13⟩) (suf := [⟨0, 10, 21, 25⟩, ⟨0, 10, 25, 15⟩]) rfl (fun z hz => by
        simp only [List.mem_cons, List.not_mem_nil, or_false] at hz
        rcases hz with rfl <;> refine ⟨by decide, ?_⟩
        · exact ⟨eIO, le_L_35, List.mem_of_getElem? (i := 47) (by decide +kernel)⟩) rfl (by decide) le_L_13 ct_eIA dL_pliesFor_17 (by decide) ?_
      refine w_iconst C dL_pliesFor_19 ?_
      refine w_iret C hr dL_pliesFor_20 rfl ⟨by rw [ho]; rfl, hR, fun h => by omega⟩ (by decide) (by decide)
    · obtain rfl := Option.some.inj he
      refine w_caught C (pre := [⟨0, 10, 13, 35⟩, ⟨0, 10, 17, 13⟩]) (x := ⟨0, 10, 21, 25⟩) (suf := [⟨0, 10, 25, 15⟩]) rfl (fun z hz => by
        simp only [List.mem_cons, List.not_mem_nil, or_false] at hz
        rcases hz with rfl | rfl <;> refine ⟨by decide, ?_⟩
        · exact ⟨eIO, le_L_35, List.mem_of_getElem? (i := 49) (by decide +kernel)⟩
        · exact ⟨eIA, le_L_13, List.mem_of_getElem? (i := 6) (by decide +kernel)⟩) rfl (by decide) le_L_25 ct_eUO dL_pliesFor_21 (by decide) ?_
      refine w_iconst C dL_pliesFor_23 ?_
      refine w_iret C hr dL_pliesFor_24 rfl ⟨by rw [ho]; rfl, hR, fun h => by omega⟩ (by decide) (by decide)
    · obtain rfl := Option.some.inj he
      refine w_caught C (pre := [⟨0, 10, 13, 35⟩, ⟨0, 10, 17, 13⟩, ⟨0, 10, 21, 25⟩]) (x := ⟨0, 10, 25, 15⟩) (suf := []) rfl (fun z hz => by
        simp only [List.mem_cons, List.not_mem_nil, or_false] at hz
        rcases hz with rfl | rfl | rfl <;> refine ⟨by decide, ?_⟩
        · exact ⟨eIO, le_L_35, List.mem_of_getElem? (i := 48) (by decide +kernel)⟩
        · exact ⟨eIA, le_L_13, List.mem_of_getElem? (i := 5) (by decide +kernel)⟩
        · exact ⟨eUO, le_L_25, List.mem_of_getElem? (i := 34) (by decide +kernel)⟩) rfl (by decide) le_L_15 ct_eIS dL_pliesFor_25 (by decide) ?_
      refine w_iconst C dL_pliesFor_27 ?_
      refine w_iret C hr dL_pliesFor_28 rfl ⟨by rw [ho]; rfl, hR, fun h => by omega⟩ (by decide) (by decide)
    · cases he
  · obtain ⟨ho, rfl, hR⟩ := hP
    refine w_i2lA C dL_pliesFor_8 ?_
    refine w_last C dL_pliesFor_9 Nat.zero_lt_one LA_80 (by omega) ?_
    refine w_goto C dL_pliesFor_10 ?_
    refine w_iconst C dL_pliesFor_29 ?_
    exact w_iret C hr dL_pliesFor_30 rfl ⟨by rw [ho]; rfl, hR.o80, fun _ => rfl⟩ (by decide) (by decide)
end Wr
