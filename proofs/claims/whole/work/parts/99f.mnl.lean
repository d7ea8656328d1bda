-- MODEL
/-! the model: nestedLength, nestedByTrying -/
section Mo
variable {l : Launch} {b0 : Nat → Prop} {ad : Ads} {M : Mem}
theorem nMk_full : ∀ N, N < 5 → nMk N (2 ^ N - 1) = N := by decide +kernel
theorem bt_full : ∀ N, N < 5 → ∀ t, t < N → bt (2 ^ N - 1) t = 1 := by decide +kernel
theorem least_mask {S : Sg} {y N : Nat} (hN : N = nwS S y) (h4 : N ≤ 4) : minN S N (wMk (fun t => (fqL (wnS S y) 16).getD t 0) N (2 ^ N - 1)) [] = leastS S y := by
  unfold leastS
  rw [← hN]
  refine minN_cg (fun k hk => ?_) rfl
  have e : wMk (fun t => (fqL (wnS S y) 16).getD t 0) N (2 ^ N - 1) k = wOf (fun t => (fqL (wnS S y) 16).getD t 0) N k := sumN_cg fun t ht => by
    rw [bt_full N (by omega) t ht]
    by_cases h : (fqL (wnS S y) 16).getD t 0 = k
    · rw [if_pos ⟨rfl, h⟩, if_pos h]
    · rw [if_neg (fun g => h g.2), if_neg h]
  have eN : N = (fqL (wnS S y) 16).length := by
    rw [fqL_len, hN]
    rfl
  rw [e, eN, wOf_list, fqL_count, if_pos hk]
theorem fq_lt {S : Sg} {P : List Pc} {nx y t : Nat} (hI : Inv S P nx) (hZ : InvZ S) (ht : t < nwS S y) : (fqL (wnS S y) 16).getD t 0 < 2 * nsS S := by
  have hns8 := hI.1.2.2.2.2.2.1
  have wz : ∀ k, 2 * nsS S ≤ k → wnS S y k = 0 := fun k hk => by
    obtain ⟨z1, z2, z3, z4, z5, z6, z7, z8, z9, z10⟩ := hZ.1 (k / 2) (by omega)
    unfold wnS
    rw [z10 y]
    split <;> split <;> rfl
  have e := fqL_z wz (16 - 2 * nsS S)
  rw [show 2 * nsS S + (16 - 2 * nsS S) = 16 by omega] at e
  have hl : t < (fqL (wnS S y) (2 * nsS S)).length := by
    rw [← e, fqL_len]
    exact ht
  rw [e, List.getD_eq_getElem?_getD, List.getElem?_eq_getElem hl]
  exact fqL_lt _ _ _ (List.getElem_mem hl)
theorem c_X7_nestedLength (hl : l.stackTraces = false) {S : Sg} {P : List Pc} {nx : Nat} (hI : Inv S P nx) (hZ : InvZ S) (hC : InvC S) (hnx : nx < 1000000) (hR : RepMo S P nx M) (a : Int) (ha : -2147483648 ≤ a ∧ a ≤ 2147483647) : Con l b0 yX7_nestedLength cX7_nestedLength 3 (some .int) 17 0 0 [aO 40 0, aI a] ad cntM M (okM (oNested a S P nx)) noX := by
  have b1 := b2_01 (0 ≤ a ∧ a < ntS S)
  have b2' := b2_01 (1 ≤ nwS S a.toNat ∧ nwS S a.toNat ≤ 4)
  have hm61 : leastS S a.toNat ≤ 61 := minN_le61
  have N1 : ¬ (0 ≤ a ∧ a < ntS S) → oNested a S P nx = (1, 0, S, P, nx) := fun h => by unfold oNested; rw [if_pos h]
  have N2 : (0 ≤ a ∧ a < ntS S) → ¬ (1 ≤ nwS S a.toNat ∧ nwS S a.toNat ≤ 4) → oNested a S P nx = (2, 0, S, P, nx) := fun h h2 => by unfold oNested; rw [if_neg (fun q => q h), if_pos h2]
  have N3 : (0 ≤ a ∧ a < ntS S) → (1 ≤ nwS S a.toNat ∧ nwS S a.toNat ≤ 4) → 61 ≤ leastS S a.toNat → oNested a S P nx = (3, 0, S, P, nx) := fun h h2 h3 => by unfold oNested; rw [if_neg (fun q => q h), if_neg (fun q => q h2), if_pos h3]
  have N0 : (0 ≤ a ∧ a < ntS S) → (1 ≤ nwS S a.toNat ∧ nwS S a.toNat ≤ 4) → ¬ 61 ≤ leastS S a.toNat → oNested a S P nx = (0, (leastS S a.toNat : Int), S, P, nx) := fun h h2 h3 => by unfold oNested; rw [if_neg (fun q => q h), if_neg (fun q => q h2), if_neg h3]
  refine Con.of hl pl_X7 (Nat.le_of_ble_eq_true rfl) ?_
  intro D cA p e s m args below meth c C hr
  refine w_aload_n C dX7_nestedLength_0 rfl ?_
  refine w_aload_n C dX7_nestedLength_1 rfl ?_
  refine w_iload_n C dX7_nestedLength_2 rfl ?_
  refine w_callV C dX7_nestedLength_3 (c_X7_isStyle hl hI.1 hR a ha) mX7_isStyle vX7_isStyle lk_X7_230 (by first | assumption | exact Nat.zero_lt_one | exact Nat.zero_lt_two | exact Nat.one_lt_two) rfl rfl rfl rfl ⟨by first | decide | (simp only [rmd]; omega), by first | decide | (simp only [rmd]; omega), by first | decide | (simp only [rmd]; omega), by first | decide | (simp only [rmd]; omega)⟩ (Nat.le_of_ble_eq_true rfl) (fun _ _ h => h.elim) ⟨by decide, by decide⟩ (fun r_ M_ q3 => ?_)
  obtain ⟨rfl, rfl⟩ := q3
  refine w_if_ne C dX7_nestedLength_6 (by omega) (fun h6 => ?_) (fun h6 => ?_)
  · have y1 := b2_n0 h6
    obtain ⟨u, rfl⟩ := Int.eq_ofNat_of_zero_le y1.1
    rw [Int.toNat_natCast] at N2 N3 N0 hm61 b2'
    refine w_aload_n C dX7_nestedLength_13 rfl ?_
    refine w_iload_n C dX7_nestedLength_14 rfl ?_
    refine w_callV C dX7_nestedLength_15 (c_X7_queues hl hI hZ hR u (by omega)) mX7_queues vX7_queues lk_X7_245 (by first | assumption | exact Nat.zero_lt_one | exact Nat.zero_lt_two | exact Nat.one_lt_two) rfl rfl rfl rfl ⟨by first | decide | (simp only [rmd]; omega), by first | decide | (simp only [rmd]; omega), by first | decide | (simp only [rmd]; omega), by first | decide | (simp only [rmd]; omega)⟩ (Nat.le_of_ble_eq_true rfl) (fun _ _ h => h.elim) ⟨by decide, by decide⟩ (fun r_ M2 q15 => ?_)
    obtain ⟨g1, g2, rfl⟩ := q15
    have hR := hR.fr g1
    refine w_if_eq C dX7_nestedLength_18 (by omega) (fun h18 => ?_) (fun h18 => ?_)
    · have y2 := b2_is0 h18
      refine w_iconst C dX7_nestedLength_25 ?_
      refine w_callV C dX7_nestedLength_26 (c_X7_failsY hl 2 (by omega)) mX7_fails vX7_fails lk_X7_129 (by first | assumption | exact Nat.zero_lt_one | exact Nat.zero_lt_two | exact Nat.one_lt_two) rfl rfl rfl rfl ⟨by first | decide | (simp only [rmd]; omega), by first | decide | (simp only [rmd]; omega), by first | decide | (simp only [rmd]; omega), by first | decide | (simp only [rmd]; omega)⟩ (Nat.le_of_ble_eq_true rfl) (fun _ _ h => h.elim) ⟨by decide, by decide⟩ (fun r_ MF q26 => ?_)
      obtain ⟨kF, kT, rfl⟩ := q26
      have hRF := hR.fr kF.fr
      refine w_if_eq_n C dX7_nestedLength_29 (by omega) (by decide) ?_
      refine w_iconst C dX7_nestedLength_32 ?_
      refine w_iret C hr dX7_nestedLength_33 rfl (by first | exact okM_no (i := 1) (N1 y1) (by decide) rfl kT hRF | exact okM_no (i := 2) (N2 y1 y2) (by decide) rfl kT hRF) (by decide) (by decide)
    · have y2 := b2_n0 h18
      refine w_iconst C dX7_nestedLength_21 ?_
      refine w_goto C dX7_nestedLength_22 ?_
      refine w_callV C dX7_nestedLength_26 (c_X7_failsN hl 0 (by omega)) mX7_fails vX7_fails lk_X7_129 (by first | assumption | exact Nat.zero_lt_one | exact Nat.zero_lt_two | exact Nat.one_lt_two) rfl rfl rfl rfl ⟨by first | decide | (simp only [rmd]; omega), by first | decide | (simp only [rmd]; omega), by first | decide | (simp only [rmd]; omega), by first | decide | (simp only [rmd]; omega)⟩ (Nat.le_of_ble_eq_true rfl) (fun _ _ h => h.elim) ⟨by decide, by decide⟩ (fun r_ MF q26 => ?_)
      obtain ⟨kF, kT, rfl⟩ := q26
      have hRF := hR.fr kF.fr
      refine w_if_eq_y C dX7_nestedLength_29 (by omega) (by decide) ?_
      have eN : (fqL (wnS S u) 16).length = nwS S u := fqL_len _ _
      have gq := g2 (by rw [eN]; exact y2.2)
      rw [eN] at gq
      have hE : QE S (fun t => (fqL (wnS S u) 16).getD t 0) (nwS S u) MF := ⟨(kF.1 40 41 (by omega)).trans gq.1, fun t ht => ⟨(kF.1 65 t (by omega)).trans (gq.2 t ht), fq_lt hI hZ ht⟩⟩
      refine w_aload_n C dX7_nestedLength_34 rfl ?_
      refine w_callV C dX7_nestedLength_35 (c_X7_leastLength hl hI hC hnx hRF y2.2 hE (nMk_full _ (by omega))) mX7_leastLength vX7_leastLength lk_X7_248 (by first | assumption | exact Nat.zero_lt_one | exact Nat.zero_lt_two | exact Nat.one_lt_two) rfl rfl rfl rfl ⟨by first | decide | (simp only [rmd]; omega), by first | decide | (simp only [rmd]; omega), by first | decide | (simp only [rmd]; omega), by first | decide | (simp only [rmd]; omega)⟩ (Nat.le_of_ble_eq_true rfl) (fun _ _ h => h.elim) ⟨by decide, by decide⟩ (fun r_ M3 q35 => ?_)
      obtain ⟨k1, rfl⟩ := q35
      have hR := k1
      rw [least_mask rfl y2.2]
      refine w_istore_n C dX7_nestedLength_38 (by decide) ?_
      refine w_aload_n C dX7_nestedLength_39 rfl ?_
      refine w_iload_n C dX7_nestedLength_40 rfl ?_
      refine w_bipush (v := 60) C dX7_nestedLength_41 rfl ?_
      refine w_icmp_le C dX7_nestedLength_43 (by omega) (by omega) (fun h43 => ?_) (fun h43 => ?_)
      · refine w_iconst C dX7_nestedLength_50 ?_
        refine w_callV C dX7_nestedLength_51 (c_X7_failsN hl 0 (by omega)) mX7_fails vX7_fails lk_X7_129 (by first | assumption | exact Nat.zero_lt_one | exact Nat.zero_lt_two | exact Nat.one_lt_two) rfl rfl rfl rfl ⟨by first | decide | (simp only [rmd]; omega), by first | decide | (simp only [rmd]; omega), by first | decide | (simp only [rmd]; omega), by first | decide | (simp only [rmd]; omega)⟩ (Nat.le_of_ble_eq_true rfl) (fun _ _ h => h.elim) ⟨by decide, by decide⟩ (fun r_ MF q51 => ?_)
        obtain ⟨kF, kT, rfl⟩ := q51
        have hRF := hR.fr kF.fr
        refine w_if_eq_y C dX7_nestedLength_54 (by omega) (by decide) ?_
        refine w_iload_n C dX7_nestedLength_61 rfl ?_
        refine w_iret C hr dX7_nestedLength_62 rfl (by first | exact okM_no (i := 3) (v := 0) (N3 y1 y2 (by omega)) (by decide) rfl kT hRF | exact okM_of (N0 y1 y2 (by omega)) rfl kT hRF) (by decide) (by decide)
      · refine w_iconst C dX7_nestedLength_46 ?_
        refine w_goto C dX7_nestedLength_47 ?_
        refine w_callV C dX7_nestedLength_51 (c_X7_failsY hl 3 (by omega)) mX7_fails vX7_fails lk_X7_129 (by first | assumption | exact Nat.zero_lt_one | exact Nat.zero_lt_two | exact Nat.one_lt_two) rfl rfl rfl rfl ⟨by first | decide | (simp only [rmd]; omega), by first | decide | (simp only [rmd]; omega), by first | decide | (simp only [rmd]; omega), by first | decide | (simp only [rmd]; omega)⟩ (Nat.le_of_ble_eq_true rfl) (fun _ _ h => h.elim) ⟨by decide, by decide⟩ (fun r_ MF q51 => ?_)
        obtain ⟨kF, kT, rfl⟩ := q51
        have hRF := hR.fr kF.fr
        refine w_if_eq_n C dX7_nestedLength_54 (by omega) (by decide) ?_
        refine w_iconst C dX7_nestedLength_57 ?_
        refine w_goto C dX7_nestedLength_58 ?_
        refine w_iret C hr dX7_nestedLength_62 rfl (by first | exact okM_no (i := 3) (v := 0) (N3 y1 y2 (by omega)) (by decide) rfl kT hRF | exact okM_of (N0 y1 y2 (by omega)) rfl kT hRF) (by decide) (by decide)
  · have y1 := b2_is0 (Decidable.not_not.mp h6)
    refine w_iconst C dX7_nestedLength_9 ?_
    refine w_goto C dX7_nestedLength_10 ?_
    refine w_callV C dX7_nestedLength_26 (c_X7_failsY hl 1 (by omega)) mX7_fails vX7_fails lk_X7_129 (by first | assumption | exact Nat.zero_lt_one | exact Nat.zero_lt_two | exact Nat.one_lt_two) rfl rfl rfl rfl ⟨by first | decide | (simp only [rmd]; omega), by first | decide | (simp only [rmd]; omega), by first | decide | (simp only [rmd]; omega), by first | decide | (simp only [rmd]; omega)⟩ (Nat.le_of_ble_eq_true rfl) (fun _ _ h => h.elim) ⟨by decide, by decide⟩ (fun r_ MF q26 => ?_)
    obtain ⟨kF, kT, rfl⟩ := q26
    have hRF := hR.fr kF.fr
    refine w_if_eq_n C dX7_nestedLength_29 (by omega) (by decide) ?_
    refine w_iconst C dX7_nestedLength_32 ?_
    refine w_iret C hr dX7_nestedLength_33 rfl (by first | exact okM_no (i := 1) (N1 y1) (by decide) rfl kT hRF | exact okM_no (i := 2) (N2 y1 y2) (by decide) rfl kT hRF) (by decide) (by decide)
theorem c_X7_nestedByTrying (hl : l.stackTraces = false) {S : Sg} {P : List Pc} {nx : Nat} (hI : Inv S P nx) (hZ : InvZ S) (hC : InvC S) (hnx : nx < 1000000) (hR : RepMo S P nx M) (a : Int) (ha : -2147483648 ≤ a ∧ a ≤ 2147483647) : Con l b0 yX7_nestedByTrying cX7_nestedByTrying 2 (some .int) 18 0 0 [aO 40 0, aI a] ad cntM M (okM (oNested a S P nx)) noX := by
  refine Con.of hl pl_X7 (Nat.le_of_ble_eq_true rfl) ?_
  intro D cA p e s m args below meth c C hr
  refine w_aload_n C dX7_nestedByTrying_0 rfl ?_
  refine w_iload_n C dX7_nestedByTrying_1 rfl ?_
  refine w_callV C dX7_nestedByTrying_2 (c_X7_nestedLength hl hI hZ hC hnx hR a ha) mX7_nestedLength vX7_nestedLength lk_X7_251 (by first | assumption | exact Nat.zero_lt_one | exact Nat.zero_lt_two | exact Nat.one_lt_two) rfl rfl rfl rfl ⟨by first | decide | (simp only [rmd]; omega), by first | decide | (simp only [rmd]; omega), by first | decide | (simp only [rmd]; omega), by first | decide | (simp only [rmd]; omega)⟩ (Nat.le_of_ble_eq_true rfl) (fun _ _ h => h.elim) ⟨by decide, by decide⟩ (fun r_ M2 q2 => ?_)
  obtain ⟨k1, k2, v9, rfl, k3⟩ := q2
  refine w_iret C hr dX7_nestedByTrying_5 rfl (⟨k1, k2, v9, rfl, k3⟩) (by decide) (by decide)
end Mo
