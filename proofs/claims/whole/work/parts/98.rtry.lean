/-! the room: nestedByTrying -/
section Rm
variable {l : Launch} {b0 : Nat → Prop} {ad : Ads} {ns nt : Nat} {M : Mem}
theorem sumN_mono {f : Nat → Nat} {a b : Nat} (h : a ≤ b) : sumN f a ≤ sumN f b := by
  induction b with
  | zero =>
    obtain rfl : a = 0 := by omega
    exact Nat.le_refl _
  | succ b ih =>
    by_cases e : a = b + 1
    · rw [e]
      exact Nat.le_refl _
    · exact Nat.le_trans (ih (by omega)) (Nat.le_add_right _ _)
theorem getD_app1 (L : List Nat) (x t : Nat) (h : t < L.length + 1) : (L ++ [x]).getD t 0 = if t = L.length then x else L.getD t 0 := by
  rw [List.getD_eq_getElem?_getD, List.getD_eq_getElem?_getD]
  by_cases e : t = L.length
  · rw [if_pos e, e, List.getElem?_append_right (Nat.le_refl _), Nat.sub_self]
    rfl
  · rw [if_neg e, List.getElem?_append_left (by omega)]
theorem c_X6_fillQueue (hl : l.stackTraces = false) {w : Nat → Nat} (hW : Wt w M) (hw4 : ∀ k, k < 16 → w k ≤ 4) (hn : sumN w 16 ≤ 4) : Con l b0 yX6_fillQueue cX6_fillQueue 4 none 2 0 0 [aO 0 0] ad (cnt ns nt) M (fun r M' => Fr (fun k i => k = 28 ∧ i = 0) M M' ∧ (∀ i, i < sumN w 16 → M'.1 28 0 i = (fqL w 16).getD i 0) ∧ r = none) noX := by
  have i27 : inD (cnt ns nt) 27 0 := Nat.zero_lt_one
  have i28 : inD (cnt ns nt) 28 0 := Nat.zero_lt_one
  refine Con.of hl pl_X6 (Nat.le_of_ble_eq_true rfl) ?_
  intro D cA p e s m args below meth c C hr
  have outer : ∀ (d kd : Nat) (M1 : Mem), kd + d = 16 → Fr (fun k i => k = 28 ∧ i = 0) M M1 → (∀ i, i < sumN w kd → M1.1 28 0 i = (fqL w kd).getD i 0) → Wm p l e (rmd 2 0 0) s m args below meth c 4 D cA b0 0 0 (vx_MQ below (mQ D cA b0 ad (cnt ns nt) (fun r M' => Fr (fun k i => k = 28 ∧ i = 0) M M' ∧ (∀ i, i < sumN w 16 → M'.1 28 0 i = (fqL w 16).getD i 0) ∧ r = none)) (mX D cA b0 ad (cnt ns nt) noX) args s 0 0 b0) 4 [(0, aO 0 0), (1, aI (sumN w kd : Nat)), (2, aI kd)] [] ad (cnt ns nt) M1 := by
    intro d
    induction d with
    | zero =>
      intro kd M1 hk hF hq
      obtain rfl : kd = 16 := by omega
      refine w_iload_n C dX6_fillQueue_4 rfl ?_
      refine w_aload_n C dX6_fillQueue_5 rfl ?_
      refine g_X6_38 C dX6_fillQueue_6 (by first | assumption | exact Nat.zero_lt_one | exact Nat.zero_lt_two | exact Nat.one_lt_two) ?_
      refine w_alen C dX6_fillQueue_9 i27 (Or.inl IA_27) ?_
      refine w_icmp_ge C dX6_fillQueue_10 (by omega) (by omega) (fun h10 => ?_) (fun h10 => ?_)
      · refine w_vret C hr dX6_fillQueue_49 (⟨hF, hq, rfl⟩) (by decide) (by decide)
      · omega
    | succ d ih =>
      intro kd M1 hk hF hq
      have inner : ∀ (d2 i : Nat) (M2 : Mem), i + d2 = w kd → Fr (fun k i => k = 28 ∧ i = 0) M M2 → (∀ t, t < sumN w kd + i → M2.1 28 0 t = (fqL w kd ++ List.replicate i kd).getD t 0) → Wm p l e (rmd 2 0 0) s m args below meth c 4 D cA b0 0 0 (vx_MQ below (mQ D cA b0 ad (cnt ns nt) (fun r M' => Fr (fun k i => k = 28 ∧ i = 0) M M' ∧ (∀ i, i < sumN w 16 → M'.1 28 0 i = (fqL w 16).getD i 0) ∧ r = none)) (mX D cA b0 ad (cnt ns nt) noX) args s 0 0 b0) 15 [(0, aO 0 0), (1, aI (sumN w kd + i : Nat)), (2, aI kd), (3, aI i)] [] ad (cnt ns nt) M2 := by
        intro d2
        induction d2 with
        | zero =>
          intro i M2 hi hF2 hq2
          obtain rfl : i = w kd := by omega
          have e4 := hw4 kd (by omega)
          refine w_iload_n C dX6_fillQueue_15 rfl ?_
          refine w_aload_n C dX6_fillQueue_16 rfl ?_
          refine g_X6_38 C dX6_fillQueue_17 (by first | assumption | exact Nat.zero_lt_one | exact Nat.zero_lt_two | exact Nat.one_lt_two) ?_
          refine w_iload_n C dX6_fillQueue_20 rfl ?_
          refine w_ialdN (j := kd) C dX6_fillQueue_21 i27 IA_27 rfl (by omega) ?_
          rw [(hF2 27 0 (by omega)).1, hW kd (by omega)]
          refine w_icmp_ge C dX6_fillQueue_22 (by omega) (by omega) (fun h22 => ?_) (fun h22 => ?_)
          · refine w_iinc C dX6_fillQueue_43 rfl (by decide) ?_
            refine w_goto C dX6_fillQueue_46 ?_
            exact Wm.lsub (lv' := [(0, aO 0 0), (1, aI (sumN w (kd + 1) : Nat)), (2, aI ((kd + 1 : Nat) : Int))]) ⟨rfl, rfl, rfl, trivial⟩ (ih (kd + 1) M2 (by omega) hF2 hq2)
          · omega
        | succ d2 ih2 =>
          intro i M2 hi hF2 hq2
          have e4 := hw4 kd (by omega)
          have e5 : sumN w (kd + 1) ≤ sumN w 16 := sumN_mono (by omega)
          have e6 : sumN w (kd + 1) = sumN w kd + w kd := rfl
          have eL : (fqL w kd ++ List.replicate i kd).length = sumN w kd + i := by rw [List.length_append, List.length_replicate, fqL_len]
          refine w_iload_n C dX6_fillQueue_15 rfl ?_
          refine w_aload_n C dX6_fillQueue_16 rfl ?_
          refine g_X6_38 C dX6_fillQueue_17 (by first | assumption | exact Nat.zero_lt_one | exact Nat.zero_lt_two | exact Nat.one_lt_two) ?_
          refine w_iload_n C dX6_fillQueue_20 rfl ?_
          refine w_ialdN (j := kd) C dX6_fillQueue_21 i27 IA_27 rfl (by omega) ?_
          rw [(hF2 27 0 (by omega)).1, hW kd (by omega)]
          refine w_icmp_ge C dX6_fillQueue_22 (by omega) (by omega) (fun h22 => ?_) (fun h22 => ?_)
          · omega
          · refine w_aload_n C dX6_fillQueue_25 rfl ?_
            refine g_X6_42 C dX6_fillQueue_26 (by first | assumption | exact Nat.zero_lt_one | exact Nat.zero_lt_two | exact Nat.one_lt_two) ?_
            refine w_iload_n C dX6_fillQueue_29 rfl ?_
            refine w_iload_n C dX6_fillQueue_30 rfl ?_
            refine w_callS C dX6_fillQueue_31 (c_X6_store hl IA_28 i28 (sumN w kd + i : Nat) (kd : Int) (by omega)) mX6_store sX6_store lk_X6_293 rfl rfl ⟨by first | decide | (simp only [rmd]; omega), by first | decide | (simp only [rmd]; omega), by first | decide | (simp only [rmd]; omega), by first | decide | (simp only [rmd]; omega)⟩ (Nat.le_of_ble_eq_true rfl) (fun _ _ h => h.elim) ⟨by decide, by decide⟩ (fun r_ M3 q31 => ?_)
            obtain ⟨q31, rfl⟩ := q31
            rw [wr_ok (by omega)] at q31
            subst q31
            refine w_iinc C dX6_fillQueue_34 rfl (by decide) ?_
            refine w_iinc C dX6_fillQueue_37 rfl (by decide) ?_
            refine w_goto C dX6_fillQueue_40 ?_
            refine Wm.lsub (lv' := [(0, aO 0 0), (1, aI (sumN w kd + (i + 1) : Nat)), (2, aI kd), (3, aI ((i + 1 : Nat) : Int))]) ⟨rfl, rfl, rfl, rfl, trivial⟩ (ih2 (i + 1) _ (by omega) (hF2.uI ⟨rfl, rfl⟩) (fun t ht => ?_))
            rw [List.replicate_succ', ← List.append_assoc, getD_app1 _ _ _ (by rw [eL]; omega), eL, uI_get]
            by_cases e : t = sumN w kd + i
            · rw [if_pos ⟨rfl, rfl, e⟩, if_pos e]
            · rw [if_neg (fun g => e g.2.2), if_neg e]
              exact hq2 t (by omega)
      refine w_iload_n C dX6_fillQueue_4 rfl ?_
      refine w_aload_n C dX6_fillQueue_5 rfl ?_
      refine g_X6_38 C dX6_fillQueue_6 (by first | assumption | exact Nat.zero_lt_one | exact Nat.zero_lt_two | exact Nat.one_lt_two) ?_
      refine w_alen C dX6_fillQueue_9 i27 (Or.inl IA_27) ?_
      refine w_icmp_ge C dX6_fillQueue_10 (by omega) (by omega) (fun h10 => ?_) (fun h10 => ?_)
      · omega
      · refine w_iconst C dX6_fillQueue_13 ?_
        refine w_istore_n C dX6_fillQueue_14 (by decide) ?_
        exact Wm.lsub (lv' := [(0, aO 0 0), (1, aI (sumN w kd + 0 : Nat)), (2, aI kd), (3, aI ((0 : Nat) : Int))]) ⟨rfl, rfl, rfl, rfl, trivial⟩ (inner (w kd) 0 M1 (by omega) hF (fun t ht => by rw [List.replicate_zero, List.append_nil]; exact hq t ht))
  refine w_iconst C dX6_fillQueue_0 ?_
  refine w_istore_n C dX6_fillQueue_1 (by decide) ?_
  refine w_iconst C dX6_fillQueue_2 ?_
  refine w_istore_n C dX6_fillQueue_3 (by decide) ?_
  exact Wm.lsub (lv' := [(0, aO 0 0), (1, aI (sumN w 0 : Nat)), (2, aI ((0 : Nat) : Int))]) ⟨rfl, rfl, rfl, trivial⟩ (outer 16 0 M (by omega) Fr.rf (fun i hi => absurd hi (Nat.not_lt_zero i)))
theorem c_X6_lengthInOrder (hl : l.stackTraces = false) {S : Sg} {P : List Pc} {nx : Nat} (hI : Inv S P nx) (hZ : InvZ S) (hR : RepRoom S P nx M) (hns : nsS S ≤ ns) {w : Nat → Nat} (hW : Wt w M) (hw4 : ∀ k, k < 16 → w k ≤ 4) (hn : sumN w 16 ≤ 4) (o : Nat) (ho : o < 1000) : Con l b0 yX6_lengthInOrder cX6_lengthInOrder 7 (some .int) 6 0 0 [aO 0 0, aI o, aI (sumN w 16 : Nat)] ad (cnt ns nt) M (fun r M' => Fr tK M M' ∧ (∃ Q q, RepMk 1 S Q q M') ∧ Wt w M' ∧ r = some (aI (lio S (sumN w 16) (fun i => (fqL w 16).getD i 0) [] o : Nat))) noX := by
  have i21 : inD (cnt ns nt) 2 1 := Nat.one_lt_two
  have i28 : inD (cnt ns nt) 28 0 := Nat.zero_lt_one
  have mK : ∀ {M1 M2 : Mem}, Fr (mkK 1) M1 M2 → Fr tK M1 M2 := fun h => h.mono (fun k i h => Or.inl h)
  have m27 : ∀ {M1 M2 : Mem}, Fr (mkK 1) M1 M2 → M2.1 27 0 = M1.1 27 0 ∧ M2.1 28 0 = M1.1 28 0 := fun h => ⟨(h 27 0 (fun q => by unfold mkK at q; omega)).1, (h 28 0 (fun q => by unfold mkK at q; omega)).1⟩
  have hB : RB S M := ⟨hR.1, hR.2.1, hR.2.2.2.2.1⟩
  have hZ0 : ∀ j, nsS S ≤ j → szS S j = 0 := fun j hj => (hZ.1 j hj).2.2.2.1
  have hfq : ∀ i, i < sumN w 16 → (fqL w 16).getD i 0 < 16 := fun i hi => by
    rw [← fqL_len w 16] at hi
    rw [List.getD_eq_getElem?_getD, List.getElem?_eq_getElem hi]
    exact fqL_lt w 16 _ (List.getElem_mem hi)
  refine Con.of hl pl_X6 (Nat.le_of_ble_eq_true rfl) ?_
  intro D cA p e s m args below meth c C hr
  obtain ⟨T, hT⟩ : ∃ T, lio S (sumN w 16) (fun i => (fqL w 16).getD i 0) [] o = T := ⟨_, rfl⟩
  have loop : ∀ (n q o1 : Nat) (qv : Nat → Nat) (Q Q0 : List Pc) (M1 : Mem), n ≤ 4 → o1 < 1000 → Fr tK M M1 → RepMk 1 S Q q M1 → PInv S Q q → Q.length + n ≤ 10 → q + n ≤ 10 → eqN Q Q0 → Wt w M1 → (∀ i, i < n → M1.1 28 0 i = qv i ∧ qv i < 16) → lio S n qv Q0 o1 = T → Wm p l e (rmd 6 0 0) s m args below meth c 7 D cA b0 0 0 (vx_MQ below (mQ D cA b0 ad (cnt ns nt) (fun r M' => Fr tK M M' ∧ (∃ Q q, RepMk 1 S Q q M') ∧ Wt w M' ∧ r = some (aI (lio S (sumN w 16) (fun i => (fqL w 16).getD i 0) [] o : Nat)))) (mX D cA b0 ad (cnt ns nt) noX) args s 0 0 b0) 16 [(0, aO 0 0), (3, aI o1), (4, aI n)] [] ad (cnt ns nt) M1 := by
    intro n
    induction n with
    | zero =>
      intro q o1 qv Q Q0 M1 hn4 ho1 hF hMk hP hQ hq hE hW1 hqv hv
      obtain ⟨f, hMF⟩ := hMk
      refine w_iload C dX6_lengthInOrder_16 rfl ?_
      refine w_if_le C dX6_lengthInOrder_18 (by omega) (fun h18 => ?_) (fun h18 => ?_)
      · refine w_aload_n C dX6_lengthInOrder_82 rfl ?_
        refine g_X6_35 C dX6_lengthInOrder_83 (by first | assumption | exact Nat.zero_lt_one | exact Nat.zero_lt_two | exact Nat.one_lt_two) ?_
        refine w_callV C dX6_lengthInOrder_86 (c_X1_rowsUsed hl i21 hMF) mX1_rowsUsed vX1_rowsUsed lk_X6_219 (by first | assumption | exact Nat.zero_lt_one | exact Nat.zero_lt_two | exact Nat.one_lt_two) rfl rfl rfl rfl ⟨by first | decide | (simp only [rmd]; omega), by first | decide | (simp only [rmd]; omega), by first | decide | (simp only [rmd]; omega), by first | decide | (simp only [rmd]; omega)⟩ (Nat.le_of_ble_eq_true rfl) (fun _ _ h => h.elim) ⟨by decide, by decide⟩ (fun r_ M_ q86 => ?_)
        obtain ⟨rfl, rfl⟩ := q86
        refine w_iret C hr dX6_lengthInOrder_89 rfl (⟨hF, ⟨Q, q, f, hMF⟩, hW1, by rw [hT, lenR_N hE, ← hv]; rfl⟩) (by decide) (by decide)
      · omega
    | succ n ih =>
      intro q o1 qv Q Q0 M1 hn4 ho1 hF hMk hP hQ hq hE hW1 hqv hv
      have hp : o1 % (n + 1) < n + 1 := Nat.mod_lt _ (by omega)
      obtain ⟨v1, v2⟩ := hqv (o1 % (n + 1)) hp
      obtain ⟨u1, u2⟩ := hqv n (by omega)
      have el : lio S (n + 1) qv Q0 o1 = if zF S Q0 (qv (o1 % (n + 1)) / 2) (qv (o1 % (n + 1)) % 2) = -1 then 61 else lio S n (swp qv (o1 % (n + 1)) n) (Q0 ++ [pcK 0 (qv (o1 % (n + 1))) (zF S Q0 (qv (o1 % (n + 1)) / 2) (qv (o1 % (n + 1)) % 2))]) (o1 / (n + 1)) := rfl
      have hod : o1 / (n + 1) < 1000 := Nat.lt_of_le_of_lt (Nat.div_le_self _ _) ho1
      rw [hv] at el
      rw [← zF_N hE] at el
      refine w_iload C dX6_lengthInOrder_16 rfl ?_
      refine w_if_le C dX6_lengthInOrder_18 (by omega) (fun h18 => ?_) (fun h18 => ?_)
      · omega
      · refine w_iload_n C dX6_lengthInOrder_21 rfl ?_
        refine w_iload C dX6_lengthInOrder_22 rfl ?_
        refine w_irem C dX6_lengthInOrder_24 (by omega) (by omega) ?_
        refine Wm.top (v' := aI (o1 % (n + 1) : Nat)) (congrArg aI (Int.natCast_emod o1 (n + 1)).symm) ?_
        refine w_istore C dX6_lengthInOrder_25 (by decide) ?_
        refine w_iload_n C dX6_lengthInOrder_27 rfl ?_
        refine w_iload C dX6_lengthInOrder_28 rfl ?_
        refine w_idiv C dX6_lengthInOrder_30 (by omega) (by omega) ?_
        refine Wm.top (v' := aI (o1 / (n + 1) : Nat)) (congrArg aI (Int.natCast_ediv o1 (n + 1)).symm) ?_
        refine w_istore_n C dX6_lengthInOrder_31 (by decide) ?_
        refine w_aload_n C dX6_lengthInOrder_32 rfl ?_
        refine g_X6_42 C dX6_lengthInOrder_33 (by first | assumption | exact Nat.zero_lt_one | exact Nat.zero_lt_two | exact Nat.one_lt_two) ?_
        refine w_iload C dX6_lengthInOrder_36 rfl ?_
        refine w_callS C dX6_lengthInOrder_38 (c_X6_entry hl IA_28 i28 (o1 % (n + 1) : Nat) (by omega)) mX6_entry sX6_entry lk_X6_264 rfl rfl ⟨by first | decide | (simp only [rmd]; omega), by first | decide | (simp only [rmd]; omega), by first | decide | (simp only [rmd]; omega), by first | decide | (simp only [rmd]; omega)⟩ (Nat.le_of_ble_eq_true rfl) (fun _ _ h => h.elim) ⟨by decide, by decide⟩ (fun r_ M_ q38 => ?_)
        obtain ⟨rfl, rfl⟩ := q38
        rw [rd_ok (by omega), v1]
        refine w_istore C dX6_lengthInOrder_41 (by decide) ?_
        refine w_aload_n C dX6_lengthInOrder_43 rfl ?_
        refine g_X6_42 C dX6_lengthInOrder_44 (by first | assumption | exact Nat.zero_lt_one | exact Nat.zero_lt_two | exact Nat.one_lt_two) ?_
        refine w_iload C dX6_lengthInOrder_47 rfl ?_
        refine w_aload_n C dX6_lengthInOrder_49 rfl ?_
        refine g_X6_42 C dX6_lengthInOrder_50 (by first | assumption | exact Nat.zero_lt_one | exact Nat.zero_lt_two | exact Nat.one_lt_two) ?_
        refine w_iload C dX6_lengthInOrder_53 rfl ?_
        refine w_iconst C dX6_lengthInOrder_55 ?_
        refine w_isub C dX6_lengthInOrder_56 ?_
        refine Wm.top (v' := aI (n : Int)) (congrArg aI (by omega)) ?_
        refine w_callS C dX6_lengthInOrder_57 (c_X6_entry hl IA_28 i28 (n : Int) (by omega)) mX6_entry sX6_entry lk_X6_264 rfl rfl ⟨by first | decide | (simp only [rmd]; omega), by first | decide | (simp only [rmd]; omega), by first | decide | (simp only [rmd]; omega), by first | decide | (simp only [rmd]; omega)⟩ (Nat.le_of_ble_eq_true rfl) (fun _ _ h => h.elim) ⟨by decide, by decide⟩ (fun r_ M_ q57 => ?_)
        obtain ⟨rfl, rfl⟩ := q57
        rw [rd_ok (by omega), u1]
        refine w_callS C dX6_lengthInOrder_60 (c_X6_store hl IA_28 i28 (o1 % (n + 1) : Nat) (qv n : Int) (by omega)) mX6_store sX6_store lk_X6_293 rfl rfl ⟨by first | decide | (simp only [rmd]; omega), by first | decide | (simp only [rmd]; omega), by first | decide | (simp only [rmd]; omega), by first | decide | (simp only [rmd]; omega)⟩ (Nat.le_of_ble_eq_true rfl) (fun _ _ h => h.elim) ⟨by decide, by decide⟩ (fun r_ M2 q60 => ?_)
        obtain ⟨q60, rfl⟩ := q60
        rw [wr_ok (by omega)] at q60
        have F2 : Fr tK M_ M2 := by rw [q60]; exact Fr.rf.uI (Or.inr (Or.inr ⟨rfl, rfl⟩))
        have F28 : Fr (fun k i => k = 28) M_ M2 := by rw [q60]; exact Fr.rf.uI rfl
        have Mk2 : RepMk 1 S Q q M2 := RepMk.fr (by omega) F28 ⟨by omega, by omega, by omega, by omega, by omega, by omega⟩ (fun _ _ => by omega) hMk
        have W2 : Wt w M2 := fun k hk => by rw [(F28 27 0 (by omega)).1]; exact hW1 k hk
        have Q2 : ∀ i, i < n → M2.1 28 0 i = swp qv (o1 % (n + 1)) n i ∧ swp qv (o1 % (n + 1)) n i < 16 := fun i hi => by
          rw [q60, uI_get]
          unfold swp
          by_cases e : i = o1 % (n + 1)
          · rw [if_pos ⟨rfl, rfl, e⟩, if_pos e]
            exact ⟨rfl, u2⟩
          · rw [if_neg (fun g => e g.2.2), if_neg e]
            exact hqv i (by omega)
        refine w_aload_n C dX6_lengthInOrder_63 rfl ?_
        refine w_iload C dX6_lengthInOrder_64 rfl ?_
        refine w_callV C dX6_lengthInOrder_66 (c_X6_nestInTrial hl hI.1 hZ0 hns (hB.fr (hF.tr F2)) Mk2 hP (by omega) (by omega) (qv (o1 % (n + 1))) v2) mX6_nestInTrial vX6_nestInTrial lk_X6_350 (by first | assumption | exact Nat.zero_lt_one | exact Nat.zero_lt_two | exact Nat.one_lt_two) rfl rfl rfl rfl ⟨by first | decide | (simp only [rmd]; omega), by first | decide | (simp only [rmd]; omega), by first | decide | (simp only [rmd]; omega), by first | decide | (simp only [rmd]; omega)⟩ (Nat.le_of_ble_eq_true rfl) (fun _ _ h => h.elim) ⟨by decide, by decide⟩ (fun r_ M3 q66 => ?_)
        rcases q66 with ⟨z1, rfl, rfl⟩ | ⟨z1, z2, z3, z4, rfl⟩
        · refine w_iconst C dX6_lengthInOrder_69 ?_
          refine w_icmp_ne C dX6_lengthInOrder_70 (by omega) (by omega) (fun h70 => ?_) (fun h70 => ?_)
          · omega
          · refine w_bipush (v := 61) C dX6_lengthInOrder_73 rfl ?_
            refine w_iret C hr dX6_lengthInOrder_75 rfl (⟨hF.tr F2, ⟨Q, q, Mk2⟩, W2, by rw [hT, el, if_pos z1]; rfl⟩) (by decide) (by decide)
        · rw [if_neg z1] at el
          refine w_iconst C dX6_lengthInOrder_69 ?_
          refine w_icmp_ne C dX6_lengthInOrder_70 (by omega) (by omega) (fun h70 => ?_) (fun h70 => ?_)
          · refine w_iinc C dX6_lengthInOrder_76 rfl (by decide) ?_
            refine w_goto C dX6_lengthInOrder_79 ?_
            refine Wm.lsub (lv' := [(0, aO 0 0), (3, aI (o1 / (n + 1) : Nat)), (4, aI (n : Int))]) ⟨rfl, rfl, ?_, trivial⟩ (ih (q + 1) (o1 / (n + 1)) (swp qv (o1 % (n + 1)) n) _ (Q0 ++ [pcK 0 (qv (o1 % (n + 1))) (zF S Q (qv (o1 % (n + 1)) / 2) (qv (o1 % (n + 1)) % 2))]) M3 (by omega) hod ((hF.tr F2).tr (mK z2)) z3 z4 (by rw [List.length_append]; show Q.length + 1 + n ≤ 10; omega) (by omega) (hE.app q 0 _ _) (fun k hk => by rw [(m27 z2).1]; exact W2 k hk) (fun i hi => by rw [(m27 z2).2]; exact Q2 i hi) el.symm)
            exact congrArg (fun z : Int => some (aI z)) (by omega)
          · omega
  obtain ⟨f, hf⟩ := hR.2.2.2.2.2
  refine w_aload_n C dX6_lengthInOrder_0 rfl ?_
  refine g_X6_35 C dX6_lengthInOrder_1 (by first | assumption | exact Nat.zero_lt_one | exact Nat.zero_lt_two | exact Nat.one_lt_two) ?_
  refine w_callV C dX6_lengthInOrder_4 (c_X1_empty (S := S) hl i21 hf) mX1_empty vX1_empty lk_X6_223 (by first | assumption | exact Nat.zero_lt_one | exact Nat.zero_lt_two | exact Nat.one_lt_two) rfl rfl rfl rfl ⟨by first | decide | (simp only [rmd]; omega), by first | decide | (simp only [rmd]; omega), by first | decide | (simp only [rmd]; omega), by first | decide | (simp only [rmd]; omega)⟩ (Nat.le_of_ble_eq_true rfl) (fun _ _ h => h.elim) ⟨by decide, by decide⟩ (fun r_ M2 q4 => ?_)
  obtain ⟨g1, g2, rfl⟩ := q4
  have W2 : Wt w M2 := fun k hk => by
    rw [(m27 g1).1]
    exact hW k hk
  refine w_aload_n C dX6_lengthInOrder_7 rfl ?_
  refine w_callV C dX6_lengthInOrder_8 (c_X6_fillQueue hl W2 hw4 hn) mX6_fillQueue vX6_fillQueue lk_X6_353 (by first | assumption | exact Nat.zero_lt_one | exact Nat.zero_lt_two | exact Nat.one_lt_two) rfl rfl rfl rfl ⟨by first | decide | (simp only [rmd]; omega), by first | decide | (simp only [rmd]; omega), by first | decide | (simp only [rmd]; omega), by first | decide | (simp only [rmd]; omega)⟩ (Nat.le_of_ble_eq_true rfl) (fun _ _ h => h.elim) ⟨by decide, by decide⟩ (fun r_ M3 q8 => ?_)
  obtain ⟨k1, k2, rfl⟩ := q8
  have F3 : Fr tK M2 M3 := k1.mono (fun k i h => Or.inr (Or.inr h))
  refine w_iload_n C dX6_lengthInOrder_11 rfl ?_
  refine w_istore_n C dX6_lengthInOrder_12 (by decide) ?_
  refine w_iload_n C dX6_lengthInOrder_13 rfl ?_
  refine w_istore C dX6_lengthInOrder_14 (by decide) ?_
  exact Wm.lsub (lv' := [(0, aO 0 0), (3, aI o), (4, aI (sumN w 16 : Nat))]) ⟨rfl, rfl, rfl, trivial⟩ (loop (sumN w 16) 0 o _ [] [] M3 hn ho ((mK g1).tr F3) (RepMk.fr (Nat.zero_le _) k1 ⟨by omega, by omega, by omega, by omega, by omega, by omega⟩ (fun _ _ => by omega) ⟨f, g2⟩) PInv.nil (by show 0 + _ ≤ 10; omega) (by omega) rfl (fun k hk => by rw [(k1 27 0 (by omega)).1]; exact W2 k hk) (fun i hi => ⟨k2 i hi, hfq i hi⟩) hT)
end Rm
