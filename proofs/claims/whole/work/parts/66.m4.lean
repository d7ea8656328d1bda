-- MODEL
/-! the model: reads of the marker, on; emptying it -/
def lkF (f : Nat → Bool) : Nat → Nat
  | 0 => 0
  | n + 1 => if f n then n / 12 + 1 else lkF f n
theorem lkF_row (f : Nat → Bool) (r c : Nat) (hc : c ≤ 12) : lkF f (12 * r + c) = if (List.range c).any (fun v => f (12 * r + v)) then r + 1 else lkF f (12 * r) := by
  induction c with
  | zero => rfl
  | succ c ih =>
    show (if f (12 * r + c) then (12 * r + c) / 12 + 1 else lkF f (12 * r + c)) = _
    rw [ih (by omega), List.range_succ, List.any_append]
    cases h : f (12 * r + c) with
    | true =>
      have : (12 * r + c) / 12 = r := by omega
      simp [h, this]
    | false => simp [h]
theorem lkF_len (f : Nat → Bool) (n : Nat) : lkF f (12 * n) = lenF (fun r => (List.range 12).any fun v => f (12 * r + v)) n := by
  induction n with
  | zero => rfl
  | succ n ih =>
    rw [show 12 * (n + 1) = 12 * n + 12 by omega, lkF_row f n 12 (Nat.le_refl _), ih]
    rfl
theorem clo_bd {S : Sg} {P : List Pc} {nx : Nat} (hI : Inv S P nx) (hnx : nx < 1000000) (k : Nat) : -1 ≤ clo S P k ∧ clo S P k ≤ 1000000 := by
  have c1 := clo_ge S P k
  have c2 := clo_lt (S := S) (fun p hp => (hI.2.1.1 p hp).2.2.2.2.2.1) k
  omega
theorem clo_nil (S : Sg) (k : Nat) : clo S [] k = -1 := rfl
theorem RepMo.mt {S : Sg} {P P' : List Pc} {nx nx' : Nat} {M M' : Mem} (h : RepMo S P nx M) (h17 : M'.1 40 0 17 = P'.length) (h18 : M'.1 40 0 18 = nx') (h0 : ∀ s, 1 ≤ s → s < 33 → s ≠ 17 → s ≠ 18 → M'.1 40 0 s = M.1 40 0 s) (hL : M'.2.2.1 = M.2.2.1) (h4 : ∀ k, 41 ≤ k → k ≤ 62 → ¬ (k = 45 ∨ 53 ≤ k ∧ k ≤ 60) → ∀ j, M'.1 k 0 j = M.1 k 0 j) (hM : RepMM S P' M') : RepMo S P' nx' M' := by
  obtain ⟨⟨m1, m2, m3, m4, m5, m6, m7, m8, m9, m10, m11⟩, n2, n3, n4, n5, n6, n7⟩ := h
  refine ⟨⟨?_, ?_, ?_, ?_, ?_, ?_, h17, h18, ?_, ?_, ?_⟩, fun k hk => ?_, fun j hj => ?_, fun j k hj hk => ?_, hM, fun y j hy hj => ?_, fun y hy => ?_⟩
  · rw [h0 1 (by decide) (by decide) (by decide) (by decide)]; exact m1
  · rw [h0 2 (by decide) (by decide) (by decide) (by decide)]; exact m2
  · rw [h0 3 (by decide) (by decide) (by decide) (by decide)]; exact m3
  · rw [h0 4 (by decide) (by decide) (by decide) (by decide)]; exact m4
  · rw [h0 5 (by decide) (by decide) (by decide) (by decide)]; exact m5
  · rw [h0 7 (by decide) (by decide) (by decide) (by decide)]; exact m6
  · rw [h0 28 (by decide) (by decide) (by decide) (by decide)]; exact m9
  · rw [h0 31 (by decide) (by decide) (by decide) (by decide)]; exact m10
  · rw [hL]; exact m11
  · rw [h4 41 (by decide) (by decide) (by omega)]; exact n2 k hk
  · obtain ⟨a1, a2, a3, a4, a5, a6, a7, a8, a9⟩ := n3 j hj
    exact ⟨by rw [h4 47 (by decide) (by decide) (by omega)]; exact a1, by rw [h4 42 (by decide) (by decide) (by omega)]; exact a2, by rw [h4 48 (by decide) (by decide) (by omega)]; exact a3, by rw [h4 49 (by decide) (by decide) (by omega)]; exact a4, by rw [h4 50 (by decide) (by decide) (by omega)]; exact a5, by rw [h4 51 (by decide) (by decide) (by omega)]; exact a6, by rw [h4 44 (by decide) (by decide) (by omega)]; exact a7, by rw [h4 52 (by decide) (by decide) (by omega)]; exact a8, by rw [h4 52 (by decide) (by decide) (by omega)]; exact a9⟩
  · rw [h4 43 (by decide) (by decide) (by omega)]; exact n4 j k hj hk
  · rw [h4 61 (by decide) (by decide) (by omega)]; exact n6 y j hy hj
  · rw [h4 62 (by decide) (by decide) (by omega)]; exact n7 y hy
def oAddStyle (S : Sg) (P : List Pc) (nx : Nat) : Res := if 4 ≤ ntS S then (1, 0, S, P, nx) else (0, (ntS S : Int), up3 S 15 0 0 (ntS S + 1), P, nx)
theorem RepMM.ph {S : Sg} {P : List Pc} {M : Mem} {u : Nat} (h : RepMM S P M) (h2 : 2 ≤ srS S) (hn : inGr S P (u + 1) ≠ 0) : M.1 59 0 u = phaseS S P (u + 1) := by
  unfold phaseS
  cases hf : P.find? (fun p => gpS S (pShp p) == u + 1) with
  | none =>
    refine absurd ?_ hn
    unfold inGr
    rw [List.countP_eq_zero]
    exact fun p hp => List.find?_eq_none.mp hf p hp
  | some p =>
    have h1 : gpS S (pShp p) = u + 1 := beq_iff_eq.mp (List.find?_some (p := fun p => gpS S (pShp p) == u + 1) hf)
    have h3 := h.2.2.2 p (List.mem_of_find?_eq_some hf) (by omega) h2
    rw [h1] at h3
    exact h3
section Mo
variable {l : Launch} {b0 : Nat → Prop} {ad : Ads} {M : Mem}
theorem c_X7_rowOf (hl : l.stackTraces = false) {S : Sg} {P : List Pc} {nx : Nat} (hI : Inv S P nx) (hnx : nx < 1000000) (hR : RepMo S P nx M) (a : Int) (ha : -2147483648 ≤ a ∧ a ≤ 2147483647) : Con l b0 yX7_rowOf cX7_rowOf 2 (some .int) 2 0 0 [aO 40 0, aI a] ad cntM M (okM (oPc (fun p => pRow p) a S P nx)) noX := by
  have hP := hI.2.2.1
  cases hs : slotS P a with
  | none =>
    have hp : plc P a = -1 := by unfold plc; rw [hs]
    refine Con.of hl pl_X7 (Nat.le_of_ble_eq_true rfl) ?_
    intro D cA p e s m args below meth c C hr
    refine w_aload_n C dX7_rowOf_0 rfl ?_
    refine w_aload_n C dX7_rowOf_1 rfl ?_
    refine w_iload_n C dX7_rowOf_2 rfl ?_
    refine w_callV C dX7_rowOf_3 (c_X7_placeOf hl hI hnx hR a ha) mX7_placeOf vX7_placeOf lk_X7_211 (by first | assumption | exact Nat.zero_lt_one | exact Nat.zero_lt_two | exact Nat.one_lt_two) rfl rfl rfl rfl ⟨by decide, by decide, by decide, by decide⟩ (Nat.le_of_ble_eq_true rfl) (fun _ _ h => h.elim) ⟨by decide, by decide⟩ (fun r_ M_ q3 => ?_)
    obtain ⟨rfl, rfl⟩ := q3
    rw [hp]
    refine w_iconst C dX7_rowOf_6 ?_
    refine w_icmp_ne C dX7_rowOf_7 (by omega) (by omega) (fun h7 => ?_) (fun h7 => ?_)
    · omega
    · refine w_iconst C dX7_rowOf_10 ?_
      refine w_goto C dX7_rowOf_11 ?_
      refine w_callV C dX7_rowOf_15 (c_X7_failsY hl 1 (by omega)) mX7_fails vX7_fails lk_X7_129 (by first | assumption | exact Nat.zero_lt_one | exact Nat.zero_lt_two | exact Nat.one_lt_two) rfl rfl rfl rfl ⟨by decide, by decide, by decide, by decide⟩ (Nat.le_of_ble_eq_true rfl) (fun _ _ h => h.elim) ⟨by decide, by decide⟩ (fun r_ MF q15 => ?_)
      obtain ⟨kF, kT, rfl⟩ := q15
      have hRF := hR.fr kF.fr
      refine w_if_eq_n C dX7_rowOf_18 (by omega) (by decide) ?_
      refine w_iconst C dX7_rowOf_21 ?_
      refine w_goto C dX7_rowOf_22 ?_
      refine w_iret C hr dX7_rowOf_35 rfl (okM_no (i := 1) (v := 0) (by unfold oPc; rw [hs]) (by decide) rfl kT hRF) (by decide) (by decide)
  | some i =>
    obtain ⟨h1, q, h2, h3, h4⟩ := plc_some hs
    have hp : plc P a = i := by unfold plc; rw [hs]
    refine Con.of hl pl_X7 (Nat.le_of_ble_eq_true rfl) ?_
    intro D cA p e s m args below meth c C hr
    refine w_aload_n C dX7_rowOf_0 rfl ?_
    refine w_aload_n C dX7_rowOf_1 rfl ?_
    refine w_iload_n C dX7_rowOf_2 rfl ?_
    refine w_callV C dX7_rowOf_3 (c_X7_placeOf hl hI hnx hR a ha) mX7_placeOf vX7_placeOf lk_X7_211 (by first | assumption | exact Nat.zero_lt_one | exact Nat.zero_lt_two | exact Nat.one_lt_two) rfl rfl rfl rfl ⟨by decide, by decide, by decide, by decide⟩ (Nat.le_of_ble_eq_true rfl) (fun _ _ h => h.elim) ⟨by decide, by decide⟩ (fun r_ M_ q3 => ?_)
    obtain ⟨rfl, rfl⟩ := q3
    rw [hp]
    refine w_iconst C dX7_rowOf_6 ?_
    refine w_icmp_ne C dX7_rowOf_7 (by omega) (by omega) (fun h7 => ?_) (fun h7 => ?_)
    · refine w_iconst C dX7_rowOf_14 ?_
      refine w_callV C dX7_rowOf_15 (c_X7_failsN hl 0 (by omega)) mX7_fails vX7_fails lk_X7_129 (by first | assumption | exact Nat.zero_lt_one | exact Nat.zero_lt_two | exact Nat.one_lt_two) rfl rfl rfl rfl ⟨by decide, by decide, by decide, by decide⟩ (Nat.le_of_ble_eq_true rfl) (fun _ _ h => h.elim) ⟨by decide, by decide⟩ (fun r_ MF q15 => ?_)
      obtain ⟨kF, kT, rfl⟩ := q15
      have hRF := hR.fr kF.fr
      refine w_if_eq_y C dX7_rowOf_18 (by omega) (by decide) ?_
      refine w_aload_n C dX7_rowOf_25 rfl ?_
      refine g_X7_52 C dX7_rowOf_26 (by first | assumption | exact Nat.zero_lt_one | exact Nat.zero_lt_two | exact Nat.one_lt_two) ?_
      refine w_aload_n C dX7_rowOf_29 rfl ?_
      refine w_iload_n C dX7_rowOf_30 rfl ?_
      refine w_callV C dX7_rowOf_31 (c_X7_placeOf hl hI hnx hRF a ha) mX7_placeOf vX7_placeOf lk_X7_211 (by first | assumption | exact Nat.zero_lt_one | exact Nat.zero_lt_two | exact Nat.one_lt_two) rfl rfl rfl rfl ⟨by decide, by decide, by decide, by decide⟩ (Nat.le_of_ble_eq_true rfl) (fun _ _ h => h.elim) ⟨by decide, by decide⟩ (fun r_ M_ q31 => ?_)
      obtain ⟨rfl, rfl⟩ := q31
      rw [hp]
      refine w_ialdN (j := i) C dX7_rowOf_34 (by first | assumption | exact Nat.zero_lt_one | exact Nat.zero_lt_two | exact Nat.one_lt_two) IA_55 (by omega) (by omega) ?_
      refine w_iret C hr dX7_rowOf_35 rfl (okM_of (v := (pRow q : Int)) (by unfold oPc; rw [hs]; show (0, ((pRow (P.getD i (0, 0, 0, 0, 0, 0)) : Nat) : Int), S, P, nx) = _; rw [h4]) (congrArg (fun z : Int => some (aI z)) (hRF.2.2.2.2.1.1 i q h2).2.2.1) kT hRF) (by decide) (by decide)
    · omega
theorem c_X7_columnOf (hl : l.stackTraces = false) {S : Sg} {P : List Pc} {nx : Nat} (hI : Inv S P nx) (hnx : nx < 1000000) (hR : RepMo S P nx M) (a : Int) (ha : -2147483648 ≤ a ∧ a ≤ 2147483647) : Con l b0 yX7_columnOf cX7_columnOf 2 (some .int) 2 0 0 [aO 40 0, aI a] ad cntM M (okM (oPc (fun p => pCol p) a S P nx)) noX := by
  have hP := hI.2.2.1
  cases hs : slotS P a with
  | none =>
    have hp : plc P a = -1 := by unfold plc; rw [hs]
    refine Con.of hl pl_X7 (Nat.le_of_ble_eq_true rfl) ?_
    intro D cA p e s m args below meth c C hr
    refine w_aload_n C dX7_columnOf_0 rfl ?_
    refine w_aload_n C dX7_columnOf_1 rfl ?_
    refine w_iload_n C dX7_columnOf_2 rfl ?_
    refine w_callV C dX7_columnOf_3 (c_X7_placeOf hl hI hnx hR a ha) mX7_placeOf vX7_placeOf lk_X7_211 (by first | assumption | exact Nat.zero_lt_one | exact Nat.zero_lt_two | exact Nat.one_lt_two) rfl rfl rfl rfl ⟨by decide, by decide, by decide, by decide⟩ (Nat.le_of_ble_eq_true rfl) (fun _ _ h => h.elim) ⟨by decide, by decide⟩ (fun r_ M_ q3 => ?_)
    obtain ⟨rfl, rfl⟩ := q3
    rw [hp]
    refine w_iconst C dX7_columnOf_6 ?_
    refine w_icmp_ne C dX7_columnOf_7 (by omega) (by omega) (fun h7 => ?_) (fun h7 => ?_)
    · omega
    · refine w_iconst C dX7_columnOf_10 ?_
      refine w_goto C dX7_columnOf_11 ?_
      refine w_callV C dX7_columnOf_15 (c_X7_failsY hl 1 (by omega)) mX7_fails vX7_fails lk_X7_129 (by first | assumption | exact Nat.zero_lt_one | exact Nat.zero_lt_two | exact Nat.one_lt_two) rfl rfl rfl rfl ⟨by decide, by decide, by decide, by decide⟩ (Nat.le_of_ble_eq_true rfl) (fun _ _ h => h.elim) ⟨by decide, by decide⟩ (fun r_ MF q15 => ?_)
      obtain ⟨kF, kT, rfl⟩ := q15
      have hRF := hR.fr kF.fr
      refine w_if_eq_n C dX7_columnOf_18 (by omega) (by decide) ?_
      refine w_iconst C dX7_columnOf_21 ?_
      refine w_goto C dX7_columnOf_22 ?_
      refine w_iret C hr dX7_columnOf_35 rfl (okM_no (i := 1) (v := 0) (by unfold oPc; rw [hs]) (by decide) rfl kT hRF) (by decide) (by decide)
  | some i =>
    obtain ⟨h1, q, h2, h3, h4⟩ := plc_some hs
    have hp : plc P a = i := by unfold plc; rw [hs]
    refine Con.of hl pl_X7 (Nat.le_of_ble_eq_true rfl) ?_
    intro D cA p e s m args below meth c C hr
    refine w_aload_n C dX7_columnOf_0 rfl ?_
    refine w_aload_n C dX7_columnOf_1 rfl ?_
    refine w_iload_n C dX7_columnOf_2 rfl ?_
    refine w_callV C dX7_columnOf_3 (c_X7_placeOf hl hI hnx hR a ha) mX7_placeOf vX7_placeOf lk_X7_211 (by first | assumption | exact Nat.zero_lt_one | exact Nat.zero_lt_two | exact Nat.one_lt_two) rfl rfl rfl rfl ⟨by decide, by decide, by decide, by decide⟩ (Nat.le_of_ble_eq_true rfl) (fun _ _ h => h.elim) ⟨by decide, by decide⟩ (fun r_ M_ q3 => ?_)
    obtain ⟨rfl, rfl⟩ := q3
    rw [hp]
    refine w_iconst C dX7_columnOf_6 ?_
    refine w_icmp_ne C dX7_columnOf_7 (by omega) (by omega) (fun h7 => ?_) (fun h7 => ?_)
    · refine w_iconst C dX7_columnOf_14 ?_
      refine w_callV C dX7_columnOf_15 (c_X7_failsN hl 0 (by omega)) mX7_fails vX7_fails lk_X7_129 (by first | assumption | exact Nat.zero_lt_one | exact Nat.zero_lt_two | exact Nat.one_lt_two) rfl rfl rfl rfl ⟨by decide, by decide, by decide, by decide⟩ (Nat.le_of_ble_eq_true rfl) (fun _ _ h => h.elim) ⟨by decide, by decide⟩ (fun r_ MF q15 => ?_)
      obtain ⟨kF, kT, rfl⟩ := q15
      have hRF := hR.fr kF.fr
      refine w_if_eq_y C dX7_columnOf_18 (by omega) (by decide) ?_
      refine w_aload_n C dX7_columnOf_25 rfl ?_
      refine g_X7_55 C dX7_columnOf_26 (by first | assumption | exact Nat.zero_lt_one | exact Nat.zero_lt_two | exact Nat.one_lt_two) ?_
      refine w_aload_n C dX7_columnOf_29 rfl ?_
      refine w_iload_n C dX7_columnOf_30 rfl ?_
      refine w_callV C dX7_columnOf_31 (c_X7_placeOf hl hI hnx hRF a ha) mX7_placeOf vX7_placeOf lk_X7_211 (by first | assumption | exact Nat.zero_lt_one | exact Nat.zero_lt_two | exact Nat.one_lt_two) rfl rfl rfl rfl ⟨by decide, by decide, by decide, by decide⟩ (Nat.le_of_ble_eq_true rfl) (fun _ _ h => h.elim) ⟨by decide, by decide⟩ (fun r_ M_ q31 => ?_)
      obtain ⟨rfl, rfl⟩ := q31
      rw [hp]
      refine w_ialdN (j := i) C dX7_columnOf_34 (by first | assumption | exact Nat.zero_lt_one | exact Nat.zero_lt_two | exact Nat.one_lt_two) IA_56 (by omega) (by omega) ?_
      refine w_iret C hr dX7_columnOf_35 rfl (okM_of (v := (pCol q : Int)) (by unfold oPc; rw [hs]; show (0, ((pCol (P.getD i (0, 0, 0, 0, 0, 0)) : Nat) : Int), S, P, nx) = _; rw [h4]) (congrArg (fun z : Int => some (aI z)) (hRF.2.2.2.2.1.1 i q h2).2.2.2.1) kT hRF) (by decide) (by decide)
    · omega
theorem c_X7_turnsOf (hl : l.stackTraces = false) {S : Sg} {P : List Pc} {nx : Nat} (hI : Inv S P nx) (hnx : nx < 1000000) (hR : RepMo S P nx M) (a : Int) (ha : -2147483648 ≤ a ∧ a ≤ 2147483647) : Con l b0 yX7_turnsOf cX7_turnsOf 2 (some .int) 2 0 0 [aO 40 0, aI a] ad cntM M (okM (oPc (fun p => pTrn p) a S P nx)) noX := by
  have hP := hI.2.2.1
  cases hs : slotS P a with
  | none =>
    have hp : plc P a = -1 := by unfold plc; rw [hs]
    refine Con.of hl pl_X7 (Nat.le_of_ble_eq_true rfl) ?_
    intro D cA p e s m args below meth c C hr
    refine w_aload_n C dX7_turnsOf_0 rfl ?_
    refine w_aload_n C dX7_turnsOf_1 rfl ?_
    refine w_iload_n C dX7_turnsOf_2 rfl ?_
    refine w_callV C dX7_turnsOf_3 (c_X7_placeOf hl hI hnx hR a ha) mX7_placeOf vX7_placeOf lk_X7_211 (by first | assumption | exact Nat.zero_lt_one | exact Nat.zero_lt_two | exact Nat.one_lt_two) rfl rfl rfl rfl ⟨by decide, by decide, by decide, by decide⟩ (Nat.le_of_ble_eq_true rfl) (fun _ _ h => h.elim) ⟨by decide, by decide⟩ (fun r_ M_ q3 => ?_)
    obtain ⟨rfl, rfl⟩ := q3
    rw [hp]
    refine w_iconst C dX7_turnsOf_6 ?_
    refine w_icmp_ne C dX7_turnsOf_7 (by omega) (by omega) (fun h7 => ?_) (fun h7 => ?_)
    · omega
    · refine w_iconst C dX7_turnsOf_10 ?_
      refine w_goto C dX7_turnsOf_11 ?_
      refine w_callV C dX7_turnsOf_15 (c_X7_failsY hl 1 (by omega)) mX7_fails vX7_fails lk_X7_129 (by first | assumption | exact Nat.zero_lt_one | exact Nat.zero_lt_two | exact Nat.one_lt_two) rfl rfl rfl rfl ⟨by decide, by decide, by decide, by decide⟩ (Nat.le_of_ble_eq_true rfl) (fun _ _ h => h.elim) ⟨by decide, by decide⟩ (fun r_ MF q15 => ?_)
      obtain ⟨kF, kT, rfl⟩ := q15
      have hRF := hR.fr kF.fr
      refine w_if_eq_n C dX7_turnsOf_18 (by omega) (by decide) ?_
      refine w_iconst C dX7_turnsOf_21 ?_
      refine w_goto C dX7_turnsOf_22 ?_
      refine w_iret C hr dX7_turnsOf_35 rfl (okM_no (i := 1) (v := 0) (by unfold oPc; rw [hs]) (by decide) rfl kT hRF) (by decide) (by decide)
  | some i =>
    obtain ⟨h1, q, h2, h3, h4⟩ := plc_some hs
    have hp : plc P a = i := by unfold plc; rw [hs]
    refine Con.of hl pl_X7 (Nat.le_of_ble_eq_true rfl) ?_
    intro D cA p e s m args below meth c C hr
    refine w_aload_n C dX7_turnsOf_0 rfl ?_
    refine w_aload_n C dX7_turnsOf_1 rfl ?_
    refine w_iload_n C dX7_turnsOf_2 rfl ?_
    refine w_callV C dX7_turnsOf_3 (c_X7_placeOf hl hI hnx hR a ha) mX7_placeOf vX7_placeOf lk_X7_211 (by first | assumption | exact Nat.zero_lt_one | exact Nat.zero_lt_two | exact Nat.one_lt_two) rfl rfl rfl rfl ⟨by decide, by decide, by decide, by decide⟩ (Nat.le_of_ble_eq_true rfl) (fun _ _ h => h.elim) ⟨by decide, by decide⟩ (fun r_ M_ q3 => ?_)
    obtain ⟨rfl, rfl⟩ := q3
    rw [hp]
    refine w_iconst C dX7_turnsOf_6 ?_
    refine w_icmp_ne C dX7_turnsOf_7 (by omega) (by omega) (fun h7 => ?_) (fun h7 => ?_)
    · refine w_iconst C dX7_turnsOf_14 ?_
      refine w_callV C dX7_turnsOf_15 (c_X7_failsN hl 0 (by omega)) mX7_fails vX7_fails lk_X7_129 (by first | assumption | exact Nat.zero_lt_one | exact Nat.zero_lt_two | exact Nat.one_lt_two) rfl rfl rfl rfl ⟨by decide, by decide, by decide, by decide⟩ (Nat.le_of_ble_eq_true rfl) (fun _ _ h => h.elim) ⟨by decide, by decide⟩ (fun r_ MF q15 => ?_)
      obtain ⟨kF, kT, rfl⟩ := q15
      have hRF := hR.fr kF.fr
      refine w_if_eq_y C dX7_turnsOf_18 (by omega) (by decide) ?_
      refine w_aload_n C dX7_turnsOf_25 rfl ?_
      refine g_X7_58 C dX7_turnsOf_26 (by first | assumption | exact Nat.zero_lt_one | exact Nat.zero_lt_two | exact Nat.one_lt_two) ?_
      refine w_aload_n C dX7_turnsOf_29 rfl ?_
      refine w_iload_n C dX7_turnsOf_30 rfl ?_
      refine w_callV C dX7_turnsOf_31 (c_X7_placeOf hl hI hnx hRF a ha) mX7_placeOf vX7_placeOf lk_X7_211 (by first | assumption | exact Nat.zero_lt_one | exact Nat.zero_lt_two | exact Nat.one_lt_two) rfl rfl rfl rfl ⟨by decide, by decide, by decide, by decide⟩ (Nat.le_of_ble_eq_true rfl) (fun _ _ h => h.elim) ⟨by decide, by decide⟩ (fun r_ M_ q31 => ?_)
      obtain ⟨rfl, rfl⟩ := q31
      rw [hp]
      refine w_ialdN (j := i) C dX7_turnsOf_34 (by first | assumption | exact Nat.zero_lt_one | exact Nat.zero_lt_two | exact Nat.one_lt_two) IA_57 (by omega) (by omega) ?_
      refine w_iret C hr dX7_turnsOf_35 rfl (okM_of (v := (pTrn q : Int)) (by unfold oPc; rw [hs]; show (0, ((pTrn (P.getD i (0, 0, 0, 0, 0, 0)) : Nat) : Int), S, P, nx) = _; rw [h4]) (congrArg (fun z : Int => some (aI z)) (hRF.2.2.2.2.1.1 i q h2).2.2.2.2.1) kT hRF) (by decide) (by decide)
    · omega
theorem c_X7_pieceAt (hl : l.stackTraces = false) {S : Sg} {P : List Pc} {nx : Nat} (hI : Inv S P nx) (hnx : nx < 1000000) (hR : RepMo S P nx M) (a b : Int) (ha : -2147483648 ≤ a ∧ a ≤ 2147483647) (hb : -2147483648 ≤ b ∧ b ≤ 2147483647) : Con l b0 yX7_pieceAt cX7_pieceAt 4 (some .int) 2 0 0 [aO 40 0, aI a, aI b] ad cntM M (okM (oPieceAt a b S P nx)) noX := by
  have b1 := b2_01 (0 ≤ a ∧ a ≤ 59)
  have b3 := b2_01 (0 ≤ b ∧ b ≤ 11)
  refine Con.of hl pl_X7 (Nat.le_of_ble_eq_true rfl) ?_
  intro D cA p e s m args below meth c C hr
  refine w_iload_n C dX7_pieceAt_0 rfl ?_
  refine w_iconst C dX7_pieceAt_1 ?_
  refine w_bipush (v := 59) C dX7_pieceAt_2 rfl ?_
  refine w_callS C dX7_pieceAt_4 (c_X7_in hl a 0 59 (by omega) (by omega) (by omega)) mX7_in sX7_in lk_X7_122 rfl rfl ⟨by decide, by decide, by decide, by decide⟩ (Nat.le_of_ble_eq_true rfl) (fun _ _ h => h.elim) ⟨by decide, by decide⟩ (fun r_ M_ q4 => ?_)
  obtain ⟨rfl, rfl⟩ := q4
  refine w_if_eq C dX7_pieceAt_7 (by omega) (fun h7 => ?_) (fun h7 => ?_)
  · have y1 := b2_is0 h7
    refine w_iconst C dX7_pieceAt_24 ?_
    refine w_istore_n C dX7_pieceAt_25 (by decide) ?_
    refine w_aload_n C dX7_pieceAt_26 rfl ?_
    refine w_iload_n C dX7_pieceAt_27 rfl ?_
    refine w_if_ne_n C dX7_pieceAt_28 (by omega) (by decide) ?_
    refine w_iconst C dX7_pieceAt_31 ?_
    refine w_goto C dX7_pieceAt_32 ?_
    refine w_callV C dX7_pieceAt_55 (c_X7_failsY hl 1 (by omega)) mX7_fails vX7_fails lk_X7_129 (by first | assumption | exact Nat.zero_lt_one | exact Nat.zero_lt_two | exact Nat.one_lt_two) rfl rfl rfl rfl ⟨by decide, by decide, by decide, by decide⟩ (Nat.le_of_ble_eq_true rfl) (fun _ _ h => h.elim) ⟨by decide, by decide⟩ (fun r_ MF q55 => ?_)
    obtain ⟨kF, kT, rfl⟩ := q55
    have hRF := hR.fr kF.fr
    refine w_if_eq_n C dX7_pieceAt_58 (by omega) (by decide) ?_
    refine w_iconst C dX7_pieceAt_61 ?_
    refine w_goto C dX7_pieceAt_62 ?_
    refine w_iret C hr dX7_pieceAt_76 rfl (by first | exact okM_no (i := 1) (v := 0) (by unfold oPieceAt; rw [if_pos (by omega)]) (by decide) rfl kT hRF | exact okM_no (i := 2) (v := 0) (by unfold oPieceAt; rw [if_neg (by omega), Int.toNat_natCast, Int.toNat_natCast, if_pos (by omega)]) (by decide) rfl kT hRF | exact okM_of (by unfold oPieceAt; rw [if_neg (by omega), Int.toNat_natCast, Int.toNat_natCast, if_neg (by omega)]) (congrArg (fun z : Int => some (aI z)) f2) kT hRF) (by decide) (by decide)
  · have y1 := b2_n0 h7
    refine w_iload_n C dX7_pieceAt_10 rfl ?_
    refine w_iconst C dX7_pieceAt_11 ?_
    refine w_bipush (v := 11) C dX7_pieceAt_12 rfl ?_
    refine w_callS C dX7_pieceAt_14 (c_X7_in hl b 0 11 (by omega) (by omega) (by omega)) mX7_in sX7_in lk_X7_122 rfl rfl ⟨by decide, by decide, by decide, by decide⟩ (Nat.le_of_ble_eq_true rfl) (fun _ _ h => h.elim) ⟨by decide, by decide⟩ (fun r_ M_ q14 => ?_)
    obtain ⟨rfl, rfl⟩ := q14
    refine w_if_eq C dX7_pieceAt_17 (by omega) (fun h17 => ?_) (fun h17 => ?_)
    · have y2 := b2_is0 h17
      refine w_iconst C dX7_pieceAt_24 ?_
      refine w_istore_n C dX7_pieceAt_25 (by decide) ?_
      refine w_aload_n C dX7_pieceAt_26 rfl ?_
      refine w_iload_n C dX7_pieceAt_27 rfl ?_
      refine w_if_ne_n C dX7_pieceAt_28 (by omega) (by decide) ?_
      refine w_iconst C dX7_pieceAt_31 ?_
      refine w_goto C dX7_pieceAt_32 ?_
      refine w_callV C dX7_pieceAt_55 (c_X7_failsY hl 1 (by omega)) mX7_fails vX7_fails lk_X7_129 (by first | assumption | exact Nat.zero_lt_one | exact Nat.zero_lt_two | exact Nat.one_lt_two) rfl rfl rfl rfl ⟨by decide, by decide, by decide, by decide⟩ (Nat.le_of_ble_eq_true rfl) (fun _ _ h => h.elim) ⟨by decide, by decide⟩ (fun r_ MF q55 => ?_)
      obtain ⟨kF, kT, rfl⟩ := q55
      have hRF := hR.fr kF.fr
      refine w_if_eq_n C dX7_pieceAt_58 (by omega) (by decide) ?_
      refine w_iconst C dX7_pieceAt_61 ?_
      refine w_goto C dX7_pieceAt_62 ?_
      refine w_iret C hr dX7_pieceAt_76 rfl (by first | exact okM_no (i := 1) (v := 0) (by unfold oPieceAt; rw [if_pos (by omega)]) (by decide) rfl kT hRF | exact okM_no (i := 2) (v := 0) (by unfold oPieceAt; rw [if_neg (by omega), Int.toNat_natCast, Int.toNat_natCast, if_pos (by omega)]) (by decide) rfl kT hRF | exact okM_of (by unfold oPieceAt; rw [if_neg (by omega), Int.toNat_natCast, Int.toNat_natCast, if_neg (by omega)]) (congrArg (fun z : Int => some (aI z)) f2) kT hRF) (by decide) (by decide)
    · have y2 := b2_n0 h17
      refine w_iconst C dX7_pieceAt_20 ?_
      refine w_goto C dX7_pieceAt_21 ?_
      refine w_istore_n C dX7_pieceAt_25 (by decide) ?_
      refine w_aload_n C dX7_pieceAt_26 rfl ?_
      refine w_iload_n C dX7_pieceAt_27 rfl ?_
      refine w_if_ne_y C dX7_pieceAt_28 (by omega) (by decide) ?_
      obtain ⟨u, rfl⟩ := Int.eq_ofNat_of_zero_le y1.1
      obtain ⟨v, rfl⟩ := Int.eq_ofNat_of_zero_le y2.1
      have f1 := hR.2.2.2.2.1.2.1 (12 * u + v) (by omega)
      have z1 := clo_bd hI hnx (12 * u + v)
      refine w_aload_n C dX7_pieceAt_35 rfl ?_
      refine g_X7_64 C dX7_pieceAt_36 (by first | assumption | exact Nat.zero_lt_one | exact Nat.zero_lt_two | exact Nat.one_lt_two) ?_
      refine w_bipush (v := 12) C dX7_pieceAt_39 rfl ?_
      refine w_iload_n C dX7_pieceAt_41 rfl ?_
      refine w_imul C dX7_pieceAt_42 ?_
      refine w_iload_n C dX7_pieceAt_43 rfl ?_
      refine w_iadd C dX7_pieceAt_44 ?_
      refine w_ialdN (j := 12 * u + v) C dX7_pieceAt_45 (by first | assumption | exact Nat.zero_lt_one | exact Nat.zero_lt_two | exact Nat.one_lt_two) IA_58 (by omega) (by omega) ?_
      refine w_iconst C dX7_pieceAt_46 ?_
      refine w_icmp_ne C dX7_pieceAt_47 (by omega) (by omega) (fun h47 => ?_) (fun h47 => ?_)
      · refine w_iconst C dX7_pieceAt_54 ?_
        refine w_callV C dX7_pieceAt_55 (c_X7_failsN hl 0 (by omega)) mX7_fails vX7_fails lk_X7_129 (by first | assumption | exact Nat.zero_lt_one | exact Nat.zero_lt_two | exact Nat.one_lt_two) rfl rfl rfl rfl ⟨by decide, by decide, by decide, by decide⟩ (Nat.le_of_ble_eq_true rfl) (fun _ _ h => h.elim) ⟨by decide, by decide⟩ (fun r_ MF q55 => ?_)
        obtain ⟨kF, kT, rfl⟩ := q55
        have hRF := hR.fr kF.fr
        refine w_if_eq_y C dX7_pieceAt_58 (by omega) (by decide) ?_
        have f2 := hRF.2.2.2.2.1.2.1 (12 * u + v) (by omega)
        refine w_aload_n C dX7_pieceAt_65 rfl ?_
        refine g_X7_64 C dX7_pieceAt_66 (by first | assumption | exact Nat.zero_lt_one | exact Nat.zero_lt_two | exact Nat.one_lt_two) ?_
        refine w_bipush (v := 12) C dX7_pieceAt_69 rfl ?_
        refine w_iload_n C dX7_pieceAt_71 rfl ?_
        refine w_imul C dX7_pieceAt_72 ?_
        refine w_iload_n C dX7_pieceAt_73 rfl ?_
        refine w_iadd C dX7_pieceAt_74 ?_
        refine w_ialdN (j := 12 * u + v) C dX7_pieceAt_75 (by first | assumption | exact Nat.zero_lt_one | exact Nat.zero_lt_two | exact Nat.one_lt_two) IA_58 (by omega) (by omega) ?_
        refine w_iret C hr dX7_pieceAt_76 rfl (by first | exact okM_no (i := 1) (v := 0) (by unfold oPieceAt; rw [if_pos (by omega)]) (by decide) rfl kT hRF | exact okM_no (i := 2) (v := 0) (by unfold oPieceAt; rw [if_neg (by omega), Int.toNat_natCast, Int.toNat_natCast, if_pos (by omega)]) (by decide) rfl kT hRF | exact okM_of (by unfold oPieceAt; rw [if_neg (by omega), Int.toNat_natCast, Int.toNat_natCast, if_neg (by omega)]) (congrArg (fun z : Int => some (aI z)) f2) kT hRF) (by decide) (by decide)
      · refine w_iconst C dX7_pieceAt_50 ?_
        refine w_goto C dX7_pieceAt_51 ?_
        refine w_callV C dX7_pieceAt_55 (c_X7_failsY hl 2 (by omega)) mX7_fails vX7_fails lk_X7_129 (by first | assumption | exact Nat.zero_lt_one | exact Nat.zero_lt_two | exact Nat.one_lt_two) rfl rfl rfl rfl ⟨by decide, by decide, by decide, by decide⟩ (Nat.le_of_ble_eq_true rfl) (fun _ _ h => h.elim) ⟨by decide, by decide⟩ (fun r_ MF q55 => ?_)
        obtain ⟨kF, kT, rfl⟩ := q55
        have hRF := hR.fr kF.fr
        refine w_if_eq_n C dX7_pieceAt_58 (by omega) (by decide) ?_
        refine w_iconst C dX7_pieceAt_61 ?_
        refine w_goto C dX7_pieceAt_62 ?_
        refine w_iret C hr dX7_pieceAt_76 rfl (by first | exact okM_no (i := 1) (v := 0) (by unfold oPieceAt; rw [if_pos (by omega)]) (by decide) rfl kT hRF | exact okM_no (i := 2) (v := 0) (by unfold oPieceAt; rw [if_neg (by omega), Int.toNat_natCast, Int.toNat_natCast, if_pos (by omega)]) (by decide) rfl kT hRF | exact okM_of (by unfold oPieceAt; rw [if_neg (by omega), Int.toNat_natCast, Int.toNat_natCast, if_neg (by omega)]) (congrArg (fun z : Int => some (aI z)) f2) kT hRF) (by decide) (by decide)
theorem c_X7_pieceByPieces (hl : l.stackTraces = false) {S : Sg} {P : List Pc} {nx : Nat} (hI : Inv S P nx) (hnx : nx < 1000000) (hR : RepMo S P nx M) (a b : Int) (ha : -2147483648 ≤ a ∧ a ≤ 2147483647) (hb : -2147483648 ≤ b ∧ b ≤ 2147483647) : Con l b0 yX7_pieceByPieces cX7_pieceByPieces 3 (some .int) 3 0 0 [aO 40 0, aI a, aI b] ad cntM M (okM (oPieceAt a b S P nx)) noX := by
  refine Con.of hl pl_X7 (Nat.le_of_ble_eq_true rfl) ?_
  intro D cA p e s m args below meth c C hr
  refine w_aload_n C dX7_pieceByPieces_0 rfl ?_
  refine w_iload_n C dX7_pieceByPieces_1 rfl ?_
  refine w_iload_n C dX7_pieceByPieces_2 rfl ?_
  refine w_callV C dX7_pieceByPieces_3 (c_X7_pieceAt hl hI hnx hR a b ha hb) mX7_pieceAt vX7_pieceAt lk_X7_221 (by first | assumption | exact Nat.zero_lt_one | exact Nat.zero_lt_two | exact Nat.one_lt_two) rfl rfl rfl rfl ⟨by decide, by decide, by decide, by decide⟩ (Nat.le_of_ble_eq_true rfl) (fun _ _ h => h.elim) ⟨by decide, by decide⟩ (fun r_ M_ q3 => ?_)
  obtain ⟨k1, k2, v, rfl, k3⟩ := q3
  refine w_iret C hr dX7_pieceByPieces_6 rfl (⟨k1, k2, v, rfl, k3⟩) (by decide) (by decide)
theorem c_X7_longest (hl : l.stackTraces = false) {S : Sg} {P : List Pc} {nx : Nat} (hI : Inv S P nx) (hnx : nx < 1000000) (hR : RepMo S P nx M) : Con l b0 yX7_longest cX7_longest 3 (some .int) 1 0 0 [aO 40 0] ad cntM M (fun r M' => M' = M ∧ r = some (aI (lenR S P : Nat))) noX := by
  have hx : (lenR S P : Nat) = lkF (fun k => decide (clo S P k ≠ -1)) 720 := (lkF_len (fun k => decide (clo S P k ≠ -1)) 60).symm
  refine Con.of hl pl_X7 (Nat.le_of_ble_eq_true rfl) ?_
  intro D cA p e s m args below meth c C hr
  have loop : ∀ (d n : Nat), n + d = 720 → Wm p l e (rmd 1 0 0) s m args below meth c 3 D cA b0 0 0 (vx_MQ below (mQ D cA b0 ad cntM (fun r M' => M' = M ∧ r = some (aI (lenR S P : Nat)))) (mX D cA b0 ad cntM noX) args s 0 0 b0) 4 [(0, aO 40 0), (1, aI (lkF (fun k => decide (clo S P k ≠ -1)) n : Nat)), (2, aI n)] [] ad cntM M := by
    intro d
    induction d with
    | zero =>
      intro n hn
      refine w_iload_n C dX7_longest_4 rfl ?_
      refine w_sipush (v := 720) C dX7_longest_5 rfl ?_
      refine w_icmp_ge C dX7_longest_8 (by omega) (by omega) (fun h8 => ?_) (fun h8 => ?_)
      · refine w_iload_n C dX7_longest_38 rfl ?_
        refine w_iret C hr dX7_longest_39 rfl (⟨rfl, by rw [hx, show n = 720 by omega]⟩) (by decide) (by decide)
      · omega
    | succ d ih =>
      intro n hn
      have f1 := hR.2.2.2.2.1.2.1 n (by omega)
      have z1 := clo_bd hI hnx n
      refine w_iload_n C dX7_longest_4 rfl ?_
      refine w_sipush (v := 720) C dX7_longest_5 rfl ?_
      refine w_icmp_ge C dX7_longest_8 (by omega) (by omega) (fun h8 => ?_) (fun h8 => ?_)
      · omega
      · refine w_aload_n C dX7_longest_11 rfl ?_
        refine g_X7_64 C dX7_longest_12 (by first | assumption | exact Nat.zero_lt_one | exact Nat.zero_lt_two | exact Nat.one_lt_two) ?_
        refine w_iload_n C dX7_longest_15 rfl ?_
        refine w_ialdN (j := n) C dX7_longest_16 (by first | assumption | exact Nat.zero_lt_one | exact Nat.zero_lt_two | exact Nat.one_lt_two) IA_58 (by omega) (by omega) ?_
        refine w_iconst C dX7_longest_17 ?_
        refine w_icmp_eq C dX7_longest_18 (by omega) (by omega) (fun h18 => ?_) (fun h18 => ?_)
        · refine w_iload_n C dX7_longest_30 rfl ?_
          refine w_istore_n C dX7_longest_31 (by decide) ?_
          refine w_iinc C dX7_longest_32 rfl (by decide) ?_
          refine w_goto C dX7_longest_35 ?_
          refine Wm.lsub (lv' := [(0, aO 40 0), (1, aI (lkF (fun k => decide (clo S P k ≠ -1)) (n + 1) : Nat)), (2, aI ((n + 1 : Nat) : Int))]) ⟨rfl, congrArg (fun z : Int => some (aI z)) ?_, rfl, trivial⟩ (ih (n + 1) (by omega))
          rw [lkF]
          first | (rw [if_pos (by simp; omega)]; omega) | (rw [if_neg (by simp; omega)])
        · refine w_iload_n C dX7_longest_21 rfl ?_
          refine w_bipush (v := 12) C dX7_longest_22 rfl ?_
          refine w_idiv C dX7_longest_24 (by omega) (by omega) ?_
          refine w_iconst C dX7_longest_25 ?_
          refine w_iadd C dX7_longest_26 ?_
          refine w_goto C dX7_longest_27 ?_
          refine w_istore_n C dX7_longest_31 (by decide) ?_
          refine w_iinc C dX7_longest_32 rfl (by decide) ?_
          refine w_goto C dX7_longest_35 ?_
          refine Wm.lsub (lv' := [(0, aO 40 0), (1, aI (lkF (fun k => decide (clo S P k ≠ -1)) (n + 1) : Nat)), (2, aI ((n + 1 : Nat) : Int))]) ⟨rfl, congrArg (fun z : Int => some (aI z)) ?_, rfl, trivial⟩ (ih (n + 1) (by omega))
          rw [lkF]
          first | (rw [if_pos (by simp; omega)]; omega) | (rw [if_neg (by simp; omega)])
  refine w_iconst C dX7_longest_0 ?_
  refine w_istore_n C dX7_longest_1 (by decide) ?_
  refine w_iconst C dX7_longest_2 ?_
  refine w_istore_n C dX7_longest_3 (by decide) ?_
  exact Wm.lsub (lv' := [(0, aO 40 0), (1, aI (lkF (fun k => decide (clo S P k ≠ -1)) 0 : Nat)), (2, aI ((0 : Nat) : Int))]) ⟨rfl, rfl, rfl, trivial⟩ (loop 720 0 (by omega))
theorem c_X7_length (hl : l.stackTraces = false) {S : Sg} {P : List Pc} {nx : Nat} (hI : Inv S P nx) (hnx : nx < 1000000) (hR : RepMo S P nx M) : Con l b0 yX7_length cX7_length 1 (some .int) 2 0 0 [aO 40 0] ad cntM M (okM (oLength S P nx)) noX := by
  refine Con.of hl pl_X7 (Nat.le_of_ble_eq_true rfl) ?_
  intro D cA p e s m args below meth c C hr
  refine w_aload_n C dX7_length_0 rfl ?_
  refine w_iconst C dX7_length_1 ?_
  refine p_X7_109 C dX7_length_2 (by first | assumption | exact Nat.zero_lt_one | exact Nat.zero_lt_two | exact Nat.one_lt_two) ?_
  refine w_aload_n C dX7_length_5 rfl ?_
  refine w_callV C dX7_length_6 (c_X7_longest hl hI hnx hR.thr) mX7_longest vX7_longest lk_X7_218 (by first | assumption | exact Nat.zero_lt_one | exact Nat.zero_lt_two | exact Nat.one_lt_two) rfl rfl rfl rfl ⟨by decide, by decide, by decide, by decide⟩ (Nat.le_of_ble_eq_true rfl) (fun _ _ h => h.elim) ⟨by decide, by decide⟩ (fun r_ M_ q6 => ?_)
  obtain ⟨rfl, rfl⟩ := q6
  refine w_iret C hr dX7_length_9 rfl (okM_of (v := (lenR S P : Nat)) rfl rfl rfl hR.thr) (by decide) (by decide)
theorem c_X7_inMarker (hl : l.stackTraces = false) {S : Sg} {P : List Pc} {nx : Nat} (hR : RepMo S P nx M) : Con l b0 yX7_inMarker cX7_inMarker 1 (some .int) 1 0 0 [aO 40 0] ad cntM M (okM (oInMarker S P nx)) noX := by
  refine Con.of hl pl_X7 (Nat.le_of_ble_eq_true rfl) ?_
  intro D cA p e s m args below meth c C hr
  refine w_aload_n C dX7_inMarker_0 rfl ?_
  refine w_iconst C dX7_inMarker_1 ?_
  refine p_X7_109 C dX7_inMarker_2 (by first | assumption | exact Nat.zero_lt_one | exact Nat.zero_lt_two | exact Nat.one_lt_two) ?_
  refine w_aload_n C dX7_inMarker_5 rfl ?_
  refine g_X7_112 C dX7_inMarker_6 (by first | assumption | exact Nat.zero_lt_one | exact Nat.zero_lt_two | exact Nat.one_lt_two) ?_
  refine w_iret C hr dX7_inMarker_9 rfl (okM_of rfl (congrArg (fun z : Int => some (aI z)) hR.1.2.2.2.2.2.2.1) rfl hR.thr) (by decide) (by decide)
theorem c_X7_cellsUsed (hl : l.stackTraces = false) {S : Sg} {P : List Pc} {nx : Nat} (hI : Inv S P nx) (hR : RepMo S P nx M) : Con l b0 yX7_cellsUsed cX7_cellsUsed 3 (some .int) 1 0 0 [aO 40 0] ad cntM M (fun r M' => M' = M ∧ r = some (aI (usedS S P : Nat))) noX := by
  have e17 := hR.1.2.2.2.2.2.2.1
  have hP := hI.2.2.1
  have g6 := hI.1.2.2.2.2.2.1
  refine Con.of hl pl_X7 (Nat.le_of_ble_eq_true rfl) ?_
  intro D cA p e s m args below meth c C hr
  have loop : ∀ (b n : Nat) (A B : List Pc), P = A ++ B → A.length = n → B.length = b → Wm p l e (rmd 1 0 0) s m args below meth c 3 D cA b0 0 0 (vx_MQ below (mQ D cA b0 ad cntM (fun r M' => M' = M ∧ r = some (aI (usedS S P : Nat)))) (mX D cA b0 ad cntM noX) args s 0 0 b0) 4 [(0, aO 40 0), (1, aI (usedS S A : Nat)), (2, aI n)] [] ad cntM M := by
    intro b
    induction b with
    | zero =>
      intro n A B hAB hA hB
      have hlen : P.length = n := by rw [hAB, List.length_append, hA, hB]; rfl
      refine w_iload_n C dX7_cellsUsed_4 rfl ?_
      refine w_aload_n C dX7_cellsUsed_5 rfl ?_
      refine g_X7_112 C dX7_cellsUsed_6 (by first | assumption | exact Nat.zero_lt_one | exact Nat.zero_lt_two | exact Nat.one_lt_two) ?_
      refine w_icmp_ge C dX7_cellsUsed_9 (by omega) (by omega) (fun h9 => ?_) (fun h9 => ?_)
      · refine w_iload_n C dX7_cellsUsed_32 rfl ?_
        refine w_iret C hr dX7_cellsUsed_33 rfl (⟨rfl, by rw [hAB, List.length_eq_zero_iff.mp hB, List.append_nil]⟩) (by decide) (by decide)
      · omega
    | succ b ih =>
      intro n A B hAB hA hB
      obtain ⟨q, B', rfl⟩ := lst_cons hB
      have hlen : P.length = n + (b + 1) := by rw [hAB, List.length_append, hA, hB]
      have hq : P[n]? = some q := by rw [hAB, ← hA]; simp
      have hqr := (hR.2.2.2.2.1.1 n q hq).2.1
      have hq8 := (hI.2.1.1 q (List.mem_of_getElem? hq)).1
      have hsz := (hR.2.2.1 (pShp q) (by omega)).2.2.1
      refine w_iload_n C dX7_cellsUsed_4 rfl ?_
      refine w_aload_n C dX7_cellsUsed_5 rfl ?_
      refine g_X7_112 C dX7_cellsUsed_6 (by first | assumption | exact Nat.zero_lt_one | exact Nat.zero_lt_two | exact Nat.one_lt_two) ?_
      refine w_icmp_ge C dX7_cellsUsed_9 (by omega) (by omega) (fun h9 => ?_) (fun h9 => ?_)
      · omega
      · refine w_iload_n C dX7_cellsUsed_12 rfl ?_
        refine w_aload_n C dX7_cellsUsed_13 rfl ?_
        refine g_X7_27 C dX7_cellsUsed_14 (by first | assumption | exact Nat.zero_lt_one | exact Nat.zero_lt_two | exact Nat.one_lt_two) ?_
        refine w_aload_n C dX7_cellsUsed_17 rfl ?_
        refine g_X7_49 C dX7_cellsUsed_18 (by first | assumption | exact Nat.zero_lt_one | exact Nat.zero_lt_two | exact Nat.one_lt_two) ?_
        refine w_iload_n C dX7_cellsUsed_21 rfl ?_
        refine w_ialdN (j := n) C dX7_cellsUsed_22 (by first | assumption | exact Nat.zero_lt_one | exact Nat.zero_lt_two | exact Nat.one_lt_two) IA_54 (by omega) (by omega) ?_
        rw [hqr]
        refine w_ialdN (j := pShp q) C dX7_cellsUsed_23 (by first | assumption | exact Nat.zero_lt_one | exact Nat.zero_lt_two | exact Nat.one_lt_two) IA_48 (by omega) (by omega) ?_
        rw [hsz]
        refine w_iadd C dX7_cellsUsed_24 ?_
        refine w_istore_n C dX7_cellsUsed_25 (by decide) ?_
        refine w_iinc C dX7_cellsUsed_26 rfl (by decide) ?_
        refine w_goto C dX7_cellsUsed_29 ?_
        refine Wm.lsub (lv' := [(0, aO 40 0), (1, aI (usedS S (A ++ [q]) : Nat)), (2, aI ((n + 1 : Nat) : Int))]) ⟨rfl, congrArg (fun z : Int => some (aI z)) ?_, rfl, trivial⟩ (ih (n + 1) (A ++ [q]) B' (by rw [hAB]; simp) (by simp [hA]) (by simpa using hB))
        unfold usedS
        rw [List.map_append, List.sum_append]
        simp
  refine w_iconst C dX7_cellsUsed_0 ?_
  refine w_istore_n C dX7_cellsUsed_1 (by decide) ?_
  refine w_iconst C dX7_cellsUsed_2 ?_
  refine w_istore_n C dX7_cellsUsed_3 (by decide) ?_
  exact Wm.lsub (lv' := [(0, aO 40 0), (1, aI (usedS S [] : Nat)), (2, aI ((0 : Nat) : Int))]) ⟨rfl, rfl, rfl, trivial⟩ (loop P.length 0 [] P rfl rfl rfl)
theorem c_X7_used (hl : l.stackTraces = false) {S : Sg} {P : List Pc} {nx : Nat} (hI : Inv S P nx) (hR : RepMo S P nx M) : Con l b0 yX7_used cX7_used 1 (some .int) 2 0 0 [aO 40 0] ad cntM M (okM (oUsed S P nx)) noX := by
  refine Con.of hl pl_X7 (Nat.le_of_ble_eq_true rfl) ?_
  intro D cA p e s m args below meth c C hr
  refine w_aload_n C dX7_used_0 rfl ?_
  refine w_iconst C dX7_used_1 ?_
  refine p_X7_109 C dX7_used_2 (by first | assumption | exact Nat.zero_lt_one | exact Nat.zero_lt_two | exact Nat.one_lt_two) ?_
  refine w_aload_n C dX7_used_5 rfl ?_
  refine w_callV C dX7_used_6 (c_X7_cellsUsed hl hI hR.thr) mX7_cellsUsed vX7_cellsUsed lk_X7_224 (by first | assumption | exact Nat.zero_lt_one | exact Nat.zero_lt_two | exact Nat.one_lt_two) rfl rfl rfl rfl ⟨by decide, by decide, by decide, by decide⟩ (Nat.le_of_ble_eq_true rfl) (fun _ _ h => h.elim) ⟨by decide, by decide⟩ (fun r_ M_ q6 => ?_)
  obtain ⟨rfl, rfl⟩ := q6
  refine w_iret C hr dX7_used_9 rfl (okM_of (v := (usedS S P : Nat)) rfl rfl rfl hR.thr) (by decide) (by decide)
theorem c_X7_phase (hl : l.stackTraces = false) {S : Sg} {P : List Pc} {nx : Nat} (hI : Inv S P nx) (hR : RepMo S P nx M) (a : Int) (ha : -2147483648 ≤ a ∧ a ≤ 2147483647) : Con l b0 yX7_phase cX7_phase 2 (some .int) 2 0 0 [aO 40 0, aI a] ad cntM M (okM (oPhase a S P nx)) noX := by
  obtain ⟨r1, r2, r3, r4, r5, r6⟩ := hR.rg hI.1
  have e4 := hR.1.2.2.2.1
  have hP := hI.2.2.1
  have b1 := b2_01 (0 ≤ a ∧ a ≤ 3)
  refine Con.of hl pl_X7 (Nat.le_of_ble_eq_true rfl) ?_
  intro D cA p e s m args below meth c C hr
  refine w_aload_n C dX7_phase_0 rfl ?_
  refine w_iload_n C dX7_phase_1 rfl ?_
  refine w_iconst C dX7_phase_2 ?_
  refine w_iconst C dX7_phase_3 ?_
  refine w_callS C dX7_phase_4 (c_X7_in hl a 0 3 (by omega) (by omega) (by omega)) mX7_in sX7_in lk_X7_122 rfl rfl ⟨by decide, by decide, by decide, by decide⟩ (Nat.le_of_ble_eq_true rfl) (fun _ _ h => h.elim) ⟨by decide, by decide⟩ (fun r_ M_ q4 => ?_)
  obtain ⟨rfl, rfl⟩ := q4
  refine w_if_ne C dX7_phase_7 (by omega) (fun h7 => ?_) (fun h7 => ?_)
  · have y1 := b2_n0 h7
    obtain ⟨u, rfl⟩ := Int.eq_ofNat_of_zero_le y1.1
    have f1 := hR.2.2.2.2.1.2.2.1 u (by omega)
    have f3 : inGr S P (u + 1) ≤ P.length := List.countP_le_length
    have f4 : ogS S P u = if 2 ≤ srS S then inGr S P (u + 1) else 0 := rfl
    refine w_aload_n C dX7_phase_14 rfl ?_
    refine g_X7_136 C dX7_phase_15 (by first | assumption | exact Nat.zero_lt_one | exact Nat.zero_lt_two | exact Nat.one_lt_two) ?_
    refine w_iconst C dX7_phase_18 ?_
    refine w_icmp_lt C dX7_phase_19 (by omega) (by omega) (fun h19 => ?_) (fun h19 => ?_)
    · refine w_iconst C dX7_phase_31 ?_
      refine w_goto C dX7_phase_32 ?_
      refine w_callV C dX7_phase_36 (c_X7_failsY hl 2 (by omega)) mX7_fails vX7_fails lk_X7_129 (by first | assumption | exact Nat.zero_lt_one | exact Nat.zero_lt_two | exact Nat.one_lt_two) rfl rfl rfl rfl ⟨by decide, by decide, by decide, by decide⟩ (Nat.le_of_ble_eq_true rfl) (fun _ _ h => h.elim) ⟨by decide, by decide⟩ (fun r_ MF q36 => ?_)
      obtain ⟨kF, kT, rfl⟩ := q36
      have hRF := hR.fr kF.fr
      refine w_if_eq_n C dX7_phase_39 (by omega) (by decide) ?_
      refine w_iconst C dX7_phase_42 ?_
      refine w_goto C dX7_phase_43 ?_
      refine w_iret C hr dX7_phase_52 rfl (by
          first
          | exact okM_no (i := 1) (v := 0) (by unfold oPhase; rw [if_pos y1]) (by decide) rfl kT hRF
          | exact okM_no (i := 2) (v := 0) (by unfold oPhase; rw [if_neg (fun q => q y1), Int.toNat_natCast, if_pos (by omega)]) (by decide) rfl kT hRF
          | exact okM_of (by unfold oPhase; rw [if_neg (fun q => q y1), Int.toNat_natCast, if_neg (by omega)]) (congrArg (fun z : Int => some (aI z)) (hRF.2.2.2.2.1.ph (by omega) (by omega))) kT hRF) (by decide) (by decide)
    · refine w_aload_n C dX7_phase_22 rfl ?_
      refine g_X7_70 C dX7_phase_23 (by first | assumption | exact Nat.zero_lt_one | exact Nat.zero_lt_two | exact Nat.one_lt_two) ?_
      refine w_iload_n C dX7_phase_26 rfl ?_
      refine w_ialdN (j := u) C dX7_phase_27 (by first | assumption | exact Nat.zero_lt_one | exact Nat.zero_lt_two | exact Nat.one_lt_two) IA_60 (by omega) (by omega) ?_
      rw [f1, f4, if_pos (by omega)]
      refine w_if_ne C dX7_phase_28 (by omega) (fun h28 => ?_) (fun h28 => ?_)
      · refine w_iconst C dX7_phase_35 ?_
        refine w_callV C dX7_phase_36 (c_X7_failsN hl 0 (by omega)) mX7_fails vX7_fails lk_X7_129 (by first | assumption | exact Nat.zero_lt_one | exact Nat.zero_lt_two | exact Nat.one_lt_two) rfl rfl rfl rfl ⟨by decide, by decide, by decide, by decide⟩ (Nat.le_of_ble_eq_true rfl) (fun _ _ h => h.elim) ⟨by decide, by decide⟩ (fun r_ MF q36 => ?_)
        obtain ⟨kF, kT, rfl⟩ := q36
        have hRF := hR.fr kF.fr
        refine w_if_eq_y C dX7_phase_39 (by omega) (by decide) ?_
        refine w_aload_n C dX7_phase_46 rfl ?_
        refine g_X7_67 C dX7_phase_47 (by first | assumption | exact Nat.zero_lt_one | exact Nat.zero_lt_two | exact Nat.one_lt_two) ?_
        refine w_iload_n C dX7_phase_50 rfl ?_
        refine w_ialdN (j := u) C dX7_phase_51 (by first | assumption | exact Nat.zero_lt_one | exact Nat.zero_lt_two | exact Nat.one_lt_two) IA_59 (by omega) (by omega) ?_
        refine w_iret C hr dX7_phase_52 rfl (by
            first
            | exact okM_no (i := 1) (v := 0) (by unfold oPhase; rw [if_pos y1]) (by decide) rfl kT hRF
            | exact okM_no (i := 2) (v := 0) (by unfold oPhase; rw [if_neg (fun q => q y1), Int.toNat_natCast, if_pos (by omega)]) (by decide) rfl kT hRF
            | exact okM_of (by unfold oPhase; rw [if_neg (fun q => q y1), Int.toNat_natCast, if_neg (by omega)]) (congrArg (fun z : Int => some (aI z)) (hRF.2.2.2.2.1.ph (by omega) (by omega))) kT hRF) (by decide) (by decide)
      · refine w_iconst C dX7_phase_31 ?_
        refine w_goto C dX7_phase_32 ?_
        refine w_callV C dX7_phase_36 (c_X7_failsY hl 2 (by omega)) mX7_fails vX7_fails lk_X7_129 (by first | assumption | exact Nat.zero_lt_one | exact Nat.zero_lt_two | exact Nat.one_lt_two) rfl rfl rfl rfl ⟨by decide, by decide, by decide, by decide⟩ (Nat.le_of_ble_eq_true rfl) (fun _ _ h => h.elim) ⟨by decide, by decide⟩ (fun r_ MF q36 => ?_)
        obtain ⟨kF, kT, rfl⟩ := q36
        have hRF := hR.fr kF.fr
        refine w_if_eq_n C dX7_phase_39 (by omega) (by decide) ?_
        refine w_iconst C dX7_phase_42 ?_
        refine w_goto C dX7_phase_43 ?_
        refine w_iret C hr dX7_phase_52 rfl (by
            first
            | exact okM_no (i := 1) (v := 0) (by unfold oPhase; rw [if_pos y1]) (by decide) rfl kT hRF
            | exact okM_no (i := 2) (v := 0) (by unfold oPhase; rw [if_neg (fun q => q y1), Int.toNat_natCast, if_pos (by omega)]) (by decide) rfl kT hRF
            | exact okM_of (by unfold oPhase; rw [if_neg (fun q => q y1), Int.toNat_natCast, if_neg (by omega)]) (congrArg (fun z : Int => some (aI z)) (hRF.2.2.2.2.1.ph (by omega) (by omega))) kT hRF) (by decide) (by decide)
  · have y1 := b2_is0 (Decidable.not_not.mp h7)
    refine w_iconst C dX7_phase_10 ?_
    refine w_goto C dX7_phase_11 ?_
    refine w_callV C dX7_phase_36 (c_X7_failsY hl 1 (by omega)) mX7_fails vX7_fails lk_X7_129 (by first | assumption | exact Nat.zero_lt_one | exact Nat.zero_lt_two | exact Nat.one_lt_two) rfl rfl rfl rfl ⟨by decide, by decide, by decide, by decide⟩ (Nat.le_of_ble_eq_true rfl) (fun _ _ h => h.elim) ⟨by decide, by decide⟩ (fun r_ MF q36 => ?_)
    obtain ⟨kF, kT, rfl⟩ := q36
    have hRF := hR.fr kF.fr
    refine w_if_eq_n C dX7_phase_39 (by omega) (by decide) ?_
    refine w_iconst C dX7_phase_42 ?_
    refine w_goto C dX7_phase_43 ?_
    refine w_iret C hr dX7_phase_52 rfl (by
        first
        | exact okM_no (i := 1) (v := 0) (by unfold oPhase; rw [if_pos y1]) (by decide) rfl kT hRF
        | exact okM_no (i := 2) (v := 0) (by unfold oPhase; rw [if_neg (fun q => q y1), Int.toNat_natCast, if_pos (by omega)]) (by decide) rfl kT hRF
        | exact okM_of (by unfold oPhase; rw [if_neg (fun q => q y1), Int.toNat_natCast, if_neg (by omega)]) (congrArg (fun z : Int => some (aI z)) (hRF.2.2.2.2.1.ph (by omega) (by omega))) kT hRF) (by decide) (by decide)
theorem c_X7_empties (hl : l.stackTraces = false) {S : Sg} {P : List Pc} {nx : Nat} (hR : RepMo S P nx M) : Con l b0 yX7_empties cX7_empties 2 none 1 0 0 [aO 40 0] ad cntM M (fun r M' => RepMo S [] 0 M' ∧ (∀ s, s ≠ 17 → s ≠ 18 → M'.1 40 0 s = M.1 40 0 s) ∧ (∀ k, k ≠ 40 → ¬ (58 ≤ k ∧ k ≤ 60) → ∀ j, M'.1 k 0 j = M.1 k 0 j) ∧ r = none) noX := by
  refine Con.of hl pl_X7 (Nat.le_of_ble_eq_true rfl) ?_
  intro D cA p e s m args below meth c C hr
  have L24 : ∀ (d n : Nat) (M1 : Mem), n + d = 4 → ((∀ s, M1.1 40 0 s = M.1 40 0 s) ∧ M1.2.2.1 = M.2.2.1 ∧ (∀ k, k ≠ 40 → ¬ (58 ≤ k ∧ k ≤ 60) → ∀ j, M1.1 k 0 j = M.1 k 0 j)) → (∀ j, j < 720 → M1.1 58 0 j = -1) → (∀ j, j < n → M1.1 60 0 j = 0) → Wm p l e (rmd 1 0 0) s m args below meth c 2 D cA b0 0 0 (vx_MQ below (mQ D cA b0 ad cntM (fun r M' => RepMo S [] 0 M' ∧ (∀ s, s ≠ 17 → s ≠ 18 → M'.1 40 0 s = M.1 40 0 s) ∧ (∀ k, k ≠ 40 → ¬ (58 ≤ k ∧ k ≤ 60) → ∀ j, M'.1 k 0 j = M.1 k 0 j) ∧ r = none)) (mX D cA b0 ad cntM noX) args s 0 0 b0) 24 [(0, aO 40 0), (1, aI n)] [] ad cntM M1 := by
    intro d
    induction d with
    | zero =>
      intro n M1 hn hF h58 h60
      refine w_iload_n C dX7_empties_24 rfl ?_
      refine w_iconst C dX7_empties_25 ?_
      refine w_icmp_ge C dX7_empties_26 (by omega) (by omega) (fun h26 => ?_) (fun h26 => ?_)
      · refine w_aload_n C dX7_empties_49 rfl ?_
        refine w_iconst C dX7_empties_50 ?_
        refine p_X7_112 C dX7_empties_51 (by first | assumption | exact Nat.zero_lt_one | exact Nat.zero_lt_two | exact Nat.one_lt_two) ?_
        refine w_aload_n C dX7_empties_54 rfl ?_
        refine w_iconst C dX7_empties_55 ?_
        refine p_X7_115 C dX7_empties_56 (by first | assumption | exact Nat.zero_lt_one | exact Nat.zero_lt_two | exact Nat.one_lt_two) ?_
        refine w_vret C hr dX7_empties_59 (by
            refine ⟨hR.mt (P' := []) (nx' := 0) rfl rfl (fun s h1 h2 h3 h4 => ?_) hF.2.1 (fun k h1 h2 h3 j => ?_) ⟨fun i p hp => (by cases hp), fun k hk => ?_, fun g hg => ?_, fun p hp => (by cases hp)⟩, fun s h1 h2 => ?_, fun k h1 h2 j => ?_, rfl⟩
            · rw [uI_get, if_neg (by omega), uI_get, if_neg (by omega)]; exact hF.1 s
            · rw [uI_get, if_neg (by omega), uI_get, if_neg (by omega)]; exact hF.2.2 k (by omega) (by omega) j
            · rw [uI_get, if_neg (by omega), uI_get, if_neg (by omega), clo_nil]; exact h58 k hk
            · rw [uI_get, if_neg (by omega), uI_get, if_neg (by omega), h60 g (by omega)]
              show (0 : Int) = ((if 2 ≤ srS S then 0 else 0 : Nat) : Int)
              split <;> rfl
            · rw [uI_get, if_neg (by omega), uI_get, if_neg (by omega)]; exact hF.1 s
            · rw [uI_get, if_neg (by omega), uI_get, if_neg (by omega)]; exact hF.2.2 k h1 h2 j) (by decide) (by decide)
      · omega
    | succ d ih =>
      intro n M1 hn hF h58 h60
      refine w_iload_n C dX7_empties_24 rfl ?_
      refine w_iconst C dX7_empties_25 ?_
      refine w_icmp_ge C dX7_empties_26 (by omega) (by omega) (fun h26 => ?_) (fun h26 => ?_)
      · omega
      · refine w_aload_n C dX7_empties_29 rfl ?_
        refine g_X7_67 C dX7_empties_30 (by first | assumption | exact Nat.zero_lt_one | exact Nat.zero_lt_two | exact Nat.one_lt_two) ?_
        refine w_iload_n C dX7_empties_33 rfl ?_
        refine w_iconst C dX7_empties_34 ?_
        refine w_iastN (j := n) C dX7_empties_35 (by first | assumption | exact Nat.zero_lt_one | exact Nat.zero_lt_two | exact Nat.one_lt_two) IA_59 (by omega) (by omega) ?_
        refine w_aload_n C dX7_empties_36 rfl ?_
        refine g_X7_70 C dX7_empties_37 (by first | assumption | exact Nat.zero_lt_one | exact Nat.zero_lt_two | exact Nat.one_lt_two) ?_
        refine w_iload_n C dX7_empties_40 rfl ?_
        refine w_iconst C dX7_empties_41 ?_
        refine w_iastN (j := n) C dX7_empties_42 (by first | assumption | exact Nat.zero_lt_one | exact Nat.zero_lt_two | exact Nat.one_lt_two) IA_60 (by omega) (by omega) ?_
        refine w_iinc C dX7_empties_43 rfl (by decide) ?_
        refine w_goto C dX7_empties_46 ?_
        refine Wm.lsub (lv' := [(0, aO 40 0), (1, aI ((n + 1 : Nat) : Int))]) ⟨rfl, rfl, trivial⟩ (ih (n + 1) _ (by omega) ⟨fun s => by rw [uI_get, if_neg (by omega), uI_get, if_neg (by omega)]; exact hF.1 s, hF.2.1, fun k h1 h2 j => by rw [uI_get, if_neg (by omega), uI_get, if_neg (by omega)]; exact hF.2.2 k h1 h2 j⟩ (fun j hj => by rw [uI_get, if_neg (by omega), uI_get, if_neg (by omega)]; exact h58 j hj) (fun j hj => ?_))
        rw [uI_get]
        split
        · rfl
        · rw [uI_get, if_neg (by omega)]; exact h60 j (by omega)
  have L2 : ∀ (d n : Nat) (M1 : Mem), n + d = 720 → ((∀ s, M1.1 40 0 s = M.1 40 0 s) ∧ M1.2.2.1 = M.2.2.1 ∧ (∀ k, k ≠ 40 → ¬ (58 ≤ k ∧ k ≤ 60) → ∀ j, M1.1 k 0 j = M.1 k 0 j)) → (∀ j, j < n → M1.1 58 0 j = -1) → Wm p l e (rmd 1 0 0) s m args below meth c 2 D cA b0 0 0 (vx_MQ below (mQ D cA b0 ad cntM (fun r M' => RepMo S [] 0 M' ∧ (∀ s, s ≠ 17 → s ≠ 18 → M'.1 40 0 s = M.1 40 0 s) ∧ (∀ k, k ≠ 40 → ¬ (58 ≤ k ∧ k ≤ 60) → ∀ j, M'.1 k 0 j = M.1 k 0 j) ∧ r = none)) (mX D cA b0 ad cntM noX) args s 0 0 b0) 2 [(0, aO 40 0), (1, aI n)] [] ad cntM M1 := by
    intro d
    induction d with
    | zero =>
      intro n M1 hn hF h58
      refine w_iload_n C dX7_empties_2 rfl ?_
      refine w_sipush (v := 720) C dX7_empties_3 rfl ?_
      refine w_icmp_ge C dX7_empties_6 (by omega) (by omega) (fun h6 => ?_) (fun h6 => ?_)
      · refine w_iconst C dX7_empties_22 ?_
        refine w_istore_n C dX7_empties_23 (by decide) ?_
        exact Wm.lsub (lv' := [(0, aO 40 0), (1, aI ((0 : Nat) : Int))]) ⟨rfl, rfl, trivial⟩ (L24 4 0 M1 (by omega) hF (fun j hj => h58 j (by omega)) (fun j hj => absurd hj (Nat.not_lt_zero j)))
      · omega
    | succ d ih =>
      intro n M1 hn hF h58
      refine w_iload_n C dX7_empties_2 rfl ?_
      refine w_sipush (v := 720) C dX7_empties_3 rfl ?_
      refine w_icmp_ge C dX7_empties_6 (by omega) (by omega) (fun h6 => ?_) (fun h6 => ?_)
      · omega
      · refine w_aload_n C dX7_empties_9 rfl ?_
        refine g_X7_64 C dX7_empties_10 (by first | assumption | exact Nat.zero_lt_one | exact Nat.zero_lt_two | exact Nat.one_lt_two) ?_
        refine w_iload_n C dX7_empties_13 rfl ?_
        refine w_iconst C dX7_empties_14 ?_
        refine w_iastN (j := n) C dX7_empties_15 (by first | assumption | exact Nat.zero_lt_one | exact Nat.zero_lt_two | exact Nat.one_lt_two) IA_58 (by omega) (by omega) ?_
        refine w_iinc C dX7_empties_16 rfl (by decide) ?_
        refine w_goto C dX7_empties_19 ?_
        refine Wm.lsub (lv' := [(0, aO 40 0), (1, aI ((n + 1 : Nat) : Int))]) ⟨rfl, rfl, trivial⟩ (ih (n + 1) _ (by omega) ⟨fun s => by rw [uI_get, if_neg (by omega)]; exact hF.1 s, hF.2.1, fun k h1 h2 j => by rw [uI_get, if_neg (by omega)]; exact hF.2.2 k h1 h2 j⟩ (fun j hj => ?_))
        rw [uI_get]
        split
        · rfl
        · exact h58 j (by omega)
  refine w_iconst C dX7_empties_0 ?_
  refine w_istore_n C dX7_empties_1 (by decide) ?_
  exact Wm.lsub (lv' := [(0, aO 40 0), (1, aI ((0 : Nat) : Int))]) ⟨rfl, rfl, trivial⟩ (L2 720 0 M (by omega) ⟨fun _ => rfl, rfl, fun _ _ _ _ => rfl⟩ (fun j hj => absurd hj (Nat.not_lt_zero j)))
theorem c_X7_clear (hl : l.stackTraces = false) {S : Sg} {P : List Pc} {nx : Nat} (hR : RepMo S P nx M) : Con l b0 yX7_clear cX7_clear 2 (some .int) 2 0 0 [aO 40 0] ad cntM M (okM (oClear S P nx)) noX := by
  have e17 := hR.1.2.2.2.2.2.2.1
  refine Con.of hl pl_X7 (Nat.le_of_ble_eq_true rfl) ?_
  intro D cA p e s m args below meth c C hr
  refine w_aload_n C dX7_clear_0 rfl ?_
  refine w_iconst C dX7_clear_1 ?_
  refine p_X7_109 C dX7_clear_2 (by first | assumption | exact Nat.zero_lt_one | exact Nat.zero_lt_two | exact Nat.one_lt_two) ?_
  refine w_aload_n C dX7_clear_5 rfl ?_
  refine g_X7_112 C dX7_clear_6 (by first | assumption | exact Nat.zero_lt_one | exact Nat.zero_lt_two | exact Nat.one_lt_two) ?_
  refine w_istore_n C dX7_clear_9 (by decide) ?_
  refine w_aload_n C dX7_clear_10 rfl ?_
  refine w_callV C dX7_clear_11 (c_X7_empties hl hR.thr) mX7_empties vX7_empties lk_X7_106 (by first | assumption | exact Nat.zero_lt_one | exact Nat.zero_lt_two | exact Nat.one_lt_two) rfl rfl rfl rfl ⟨by decide, by decide, by decide, by decide⟩ (Nat.le_of_ble_eq_true rfl) (fun _ _ h => h.elim) ⟨by decide, by decide⟩ (fun r_ M2 q11 => ?_)
  obtain ⟨k1, k2, k3, rfl⟩ := q11
  refine w_iload_n C dX7_clear_14 rfl ?_
  refine w_iret C hr dX7_clear_15 rfl (okM_of (v := (P.length : Int)) (S' := S) (P' := []) (nx' := 0) rfl (congrArg (fun z : Int => some (aI z)) e17) (k2 0 (by decide) (by decide)) k1) (by decide) (by decide)
theorem c_X7_addStyle (hl : l.stackTraces = false) {S : Sg} {P : List Pc} {nx : Nat} (hI : Inv S P nx) (hR : RepMo S P nx M) : Con l b0 yX7_addStyle cX7_addStyle 1 (some .int) 2 0 0 [aO 40 0] ad cntM M (okM (oAddStyle S P nx)) noX := by
  have e28 := hR.1.2.2.2.2.2.2.2.2.1
  have g7 := hI.1.2.2.2.2.2.2.1
  refine Con.of hl pl_X7 (Nat.le_of_ble_eq_true rfl) ?_
  intro D cA p e s m args below meth c C hr
  refine w_aload_n C dX7_addStyle_0 rfl ?_
  refine w_aload_n C dX7_addStyle_1 rfl ?_
  refine g_X7_227 C dX7_addStyle_2 (by first | assumption | exact Nat.zero_lt_one | exact Nat.zero_lt_two | exact Nat.one_lt_two) ?_
  refine w_iconst C dX7_addStyle_5 ?_
  refine w_icmp_ne C dX7_addStyle_6 (by omega) (by omega) (fun h6 => ?_) (fun h6 => ?_)
  · refine w_iconst C dX7_addStyle_13 ?_
    refine w_callV C dX7_addStyle_14 (c_X7_failsN hl 0 (by omega)) mX7_fails vX7_fails lk_X7_129 (by first | assumption | exact Nat.zero_lt_one | exact Nat.zero_lt_two | exact Nat.one_lt_two) rfl rfl rfl rfl ⟨by decide, by decide, by decide, by decide⟩ (Nat.le_of_ble_eq_true rfl) (fun _ _ h => h.elim) ⟨by decide, by decide⟩ (fun r_ MF q14 => ?_)
    obtain ⟨kF, kT, rfl⟩ := q14
    have hRF := hR.fr kF.fr
    refine w_if_eq_y C dX7_addStyle_17 (by omega) (by decide) ?_
    refine w_aload_n C dX7_addStyle_22 rfl ?_
    refine w_dup C dX7_addStyle_23 rfl ?_
    refine g_X7_227 C dX7_addStyle_24 (by first | assumption | exact Nat.zero_lt_one | exact Nat.zero_lt_two | exact Nat.one_lt_two) ?_
    refine w_iconst C dX7_addStyle_27 ?_
    refine w_iadd C dX7_addStyle_28 ?_
    refine p_X7_227 C dX7_addStyle_29 (by first | assumption | exact Nat.zero_lt_one | exact Nat.zero_lt_two | exact Nat.one_lt_two) ?_
    refine w_aload_n C dX7_addStyle_32 rfl ?_
    refine g_X7_227 C dX7_addStyle_33 (by first | assumption | exact Nat.zero_lt_one | exact Nat.zero_lt_two | exact Nat.one_lt_two) ?_
    refine w_iconst C dX7_addStyle_36 ?_
    refine w_isub C dX7_addStyle_37 ?_
    refine w_iret C hr dX7_addStyle_38 rfl (by
        obtain ⟨⟨m1, m2, m3, m4, m5, m6, m7, m8, m9, m10, m11⟩, n2, n3, n4, n5, n6, n7⟩ := hRF
        exact okM_of (v := (ntS S : Int)) (S' := up3 S 15 0 0 (ntS S + 1)) (P' := P) (nx' := nx) (by unfold oAddStyle; rw [if_neg (by omega)]) (congrArg (fun z : Int => some (aI z)) (show MF.1 40 0 28 + 1 - 1 = _ by omega)) kT ⟨⟨m1, m2, m3, m4, m5, m6, m7, m8, (show MF.1 40 0 28 + 1 = ((ntS S + 1 : Nat) : Int) by omega), m10, m11⟩, n2, n3, n4, n5.cg (fun p _ => ⟨rfl, rfl, rfl, rfl⟩) (fun _ => rfl), n6, n7⟩) (by decide) (by decide)
  · refine w_iconst C dX7_addStyle_9 ?_
    refine w_goto C dX7_addStyle_10 ?_
    refine w_callV C dX7_addStyle_14 (c_X7_failsY hl 1 (by omega)) mX7_fails vX7_fails lk_X7_129 (by first | assumption | exact Nat.zero_lt_one | exact Nat.zero_lt_two | exact Nat.one_lt_two) rfl rfl rfl rfl ⟨by decide, by decide, by decide, by decide⟩ (Nat.le_of_ble_eq_true rfl) (fun _ _ h => h.elim) ⟨by decide, by decide⟩ (fun r_ MF q14 => ?_)
    obtain ⟨kF, kT, rfl⟩ := q14
    have hRF := hR.fr kF.fr
    refine w_if_eq_n C dX7_addStyle_17 (by omega) (by decide) ?_
    refine w_iconst C dX7_addStyle_20 ?_
    refine w_iret C hr dX7_addStyle_21 rfl (okM_no (i := 1) (by unfold oAddStyle; rw [if_pos (by omega)]) (by decide) rfl kT hRF) (by decide) (by decide)
end Mo
