-- MODEL
/-! the model: cells and marks of shapes; reads of the marker -/
/-- one shape, which no piece of the marker has, has changed its cells and marks -/
theorem RepMo.sh {S S' : Sg} {P : List Pc} {nx u : Nat} {M M' : Mem} (h : RepMo S P nx M) (hag : ∀ f i q, ¬ ((9 ≤ f ∧ f ≤ 13) ∧ i = u) → S' f i q = S f i q) (hno : ∀ p ∈ P, pShp p ≠ u)
    (h0 : ∀ s, 1 ≤ s → s < 33 → M'.1 40 0 s = M.1 40 0 s) (hL : M'.2.2.1 = M.2.2.1) (h4 : ∀ k, ¬ (k = 43 ∨ k = 48 ∨ 49 ≤ k ∧ k ≤ 51) → 41 ≤ k → k ≤ 62 → ∀ j, M'.1 k 0 j = M.1 k 0 j) (hX : ∀ k, 48 ≤ k → k ≤ 51 → ∀ j, j ≠ u → M'.1 k 0 j = M.1 k 0 j)
    (hu : u < 8 → M'.1 48 0 u = szS S' u ∧ M'.1 49 0 u = (gpS S' u : Int) - 1 ∧ M'.1 50 0 u = mrS S' u ∧ M'.1 51 0 u = mcS S' u) (hd : ∀ j k, j < 8 → k < 25 → M'.1 43 0 (25 * j + k) = drS S' j k) : RepMo S' P nx M' := by
  obtain ⟨⟨m1, m2, m3, m4, m5, m6, m7, m8, m9, m10, m11⟩, n2, n3, n4, n5, n6, n7⟩ := h
  have e : ∀ f, ¬ (9 ≤ f ∧ f ≤ 13) → ∀ i q, S' f i q = S f i q := fun f hf i q => hag f i q (fun z => hf z.1)
  have hgar : ∀ j, garS S' j = garS S j := fun j => by
    unfold garS
    refine sumN_cg fun y _ => ?_
    unfold pppS
    rw [show mdS S' y = mdS S y from e 17 (by omega) y 0, show ctS S' y j = ctS S y j from e 16 (by omega) y j, show paS S' j = paS S j from e 8 (by omega) j 0]
  have heS : ∀ j, eS S' j = eS S j := fun j => by
    unfold eS
    rw [hgar, show stS S' j 0 = stS S j 0 from e 14 (by omega) j 0, show stS S' j 1 = stS S j 1 from e 14 (by omega) j 1]
  have hcut : cutS S' = cutS S := by
    unfold cutS
    rw [show nsS S' = nsS S from e 6 (by omega) 0 0]
    exact sumN_cg fun j _ => heS j
  refine ⟨⟨?_, ?_, ?_, ?_, ?_, ?_, ?_, ?_, ?_, ?_, ?_⟩, fun k hk => ?_, fun j hj => ?_, hd, ?_, fun y j hy hj => ?_, fun y hy => ?_⟩
  · rw [h0 1 (by decide) (by decide), show wdS S' = wdS S from e 0 (by omega) 0 0]; exact m1
  · rw [h0 2 (by decide) (by decide), show npS S' = npS S from e 1 (by omega) 0 0]; exact m2
  · rw [h0 3 (by decide) (by decide), show fdS S' = fdS S from e 2 (by omega) 0 0]; exact m3
  · rw [h0 4 (by decide) (by decide), show srS S' = srS S from e 3 (by omega) 0 0]; exact m4
  · rw [h0 5 (by decide) (by decide), show nfS S' = nfS S from e 4 (by omega) 0 0]; exact m5
  · rw [h0 7 (by decide) (by decide), show nsS S' = nsS S from e 6 (by omega) 0 0]; exact m6
  · rw [h0 17 (by decide) (by decide)]; exact m7
  · rw [h0 18 (by decide) (by decide)]; exact m8
  · rw [h0 28 (by decide) (by decide), show ntS S' = ntS S from e 15 (by omega) 0 0]; exact m9
  · rw [h0 31 (by decide) (by decide), show rlS S' = rlS S from e 18 (by omega) 0 0]; exact m10
  · rw [hL, hcut]; exact m11
  · rw [h4 41 (by omega) (by decide) (by decide), show flS S' k = flS S k from e 5 (by omega) 0 k]; exact n2 k hk
  · obtain ⟨a1, a2, a3, a4, a5, a6, a7, a8, a9⟩ := n3 j hj
    have q48 : M'.1 48 0 j = szS S' j ∧ M'.1 49 0 j = (gpS S' j : Int) - 1 ∧ M'.1 50 0 j = mrS S' j ∧ M'.1 51 0 j = mcS S' j := by
      by_cases hju : j = u
      · subst hju
        exact hu hj
      · have e' : ∀ f, S' f j 0 = S f j 0 := fun f => hag f j 0 (fun z => hju z.2)
        rw [hX 48 (by decide) (by decide) j hju, hX 49 (by decide) (by decide) j hju, hX 50 (by decide) (by decide) j hju, hX 51 (by decide) (by decide) j hju, show szS S' j = szS S j from e' 10, show gpS S' j = gpS S j from e' 11, show mrS S' j = mrS S j from e' 12, show mcS S' j = mcS S j from e' 13]
        exact ⟨a3, a4, a5, a6⟩
    refine ⟨?_, ?_, q48.1, q48.2.1, q48.2.2.1, q48.2.2.2, ?_, ?_, ?_⟩
    · rw [h4 47 (by omega) (by decide) (by decide), show ruS S' j = ruS S j from e 7 (by omega) j 0]; exact a1
    · rw [h4 42 (by omega) (by decide) (by decide), show paS S' j = paS S j from e 8 (by omega) j 0]; exact a2
    · rw [h4 44 (by omega) (by decide) (by decide), heS]; exact a7
    · rw [h4 52 (by omega) (by decide) (by decide), show stS S' j 0 = stS S j 0 from e 14 (by omega) j 0]; exact a8
    · rw [h4 52 (by omega) (by decide) (by decide), show stS S' j 1 = stS S j 1 from e 14 (by omega) j 1]; exact a9
  · have n5' : RepMM S P M' := n5.fr fun k hk j => h4 k (by omega) (by omega) (by omega) j
    refine n5'.cg (fun p hp => ?_) (fun _ => e 3 (by omega) 0 0)
    have hpu := hno p hp
    refine ⟨?_, hag 11 _ 0 (fun z => hpu z.2), hag 12 _ 0 (fun z => hpu z.2), hag 13 _ 0 (fun z => hpu z.2)⟩
    funext k
    unfold dB
    rw [show drS S' (pShp p) k = drS S (pShp p) k from hag 9 _ k (fun z => hpu z.2)]
  · rw [h4 61 (by omega) (by decide) (by decide), show ctS S' y j = ctS S y j from e 16 (by omega) y j]; exact n6 y j hy hj
  · rw [h4 62 (by omega) (by decide) (by decide), show mdS S' y = mdS S y from e 17 (by omega) y 0]; exact n7 y hy
section Mo
variable {l : Launch} {b0 : Nat → Prop} {ad : Ads} {M : Mem}
theorem c_X7_addCell (hl : l.stackTraces = false) {S : Sg} {P : List Pc} {nx : Nat} (hI : Inv S P nx) (hR : RepMo S P nx M) (a b c' : Int) (ha : -2147483648 ≤ a ∧ a ≤ 2147483647) (hb : -2147483648 ≤ b ∧ b ≤ 2147483647) (hc : -2147483648 ≤ c' ∧ c' ≤ 2147483647) : Con l b0 yX7_addCell cX7_addCell 6 (some .int) 3 0 0 [aO 40 0, aI a, aI b, aI c'] ad cntM M (okM (oAddCell a b c' S P nx)) noX := by
  have g6 := hI.1.2.2.2.2.2.1
  have b1 := b2_01 (0 ≤ b ∧ b ≤ 4)
  have b3 := b2_01 (0 ≤ c' ∧ c' ≤ 4)
  have b4 := b2_01 (0 ≤ a ∧ a < nsS S)
  refine Con.of hl pl_X7 (Nat.le_of_ble_eq_true rfl) ?_
  intro D cA p e s m args below meth c C hr
  refine w_iload_n C dX7_addCell_0 rfl ?_
  refine w_iconst C dX7_addCell_1 ?_
  refine w_iconst C dX7_addCell_2 ?_
  refine w_callS C dX7_addCell_3 (c_X7_in hl b 0 4 (by omega) (by omega) (by omega)) mX7_in sX7_in lk_X7_122 rfl rfl ⟨by decide, by decide, by decide, by decide⟩ (Nat.le_of_ble_eq_true rfl) (fun _ _ h => h.elim) ⟨by decide, by decide⟩ (fun r_ M_ q3 => ?_)
  obtain ⟨rfl, rfl⟩ := q3
  refine w_if_eq C dX7_addCell_6 (by omega) (fun h6 => ?_) (fun h6 => ?_)
  · have y1 := b2_is0 h6
    refine w_iconst C dX7_addCell_22 ?_
    refine w_istore C dX7_addCell_23 (by decide) ?_
    refine w_bipush (v := 25) C dX7_addCell_25 rfl ?_
    refine w_iload_n C dX7_addCell_27 rfl ?_
    refine w_imul C dX7_addCell_28 ?_
    refine w_iconst C dX7_addCell_29 ?_
    refine w_iload_n C dX7_addCell_30 rfl ?_
    refine w_imul C dX7_addCell_31 ?_
    refine w_iadd C dX7_addCell_32 ?_
    refine w_iload_n C dX7_addCell_33 rfl ?_
    refine w_iadd C dX7_addCell_34 ?_
    refine w_istore C dX7_addCell_35 (by decide) ?_
    refine w_aload_n C dX7_addCell_37 rfl ?_
    refine w_aload_n C dX7_addCell_38 rfl ?_
    refine w_iload_n C dX7_addCell_39 rfl ?_
    refine w_callV C dX7_addCell_40 (c_X7_isShape hl hI.1 hR a ha) mX7_isShape vX7_isShape lk_X7_146 (by first | assumption | exact Nat.zero_lt_one | exact Nat.zero_lt_two | exact Nat.one_lt_two) rfl rfl rfl rfl ⟨by decide, by decide, by decide, by decide⟩ (Nat.le_of_ble_eq_true rfl) (fun _ _ h => h.elim) ⟨by decide, by decide⟩ (fun r_ M_ q40 => ?_)
    obtain ⟨rfl, rfl⟩ := q40
    refine w_if_ne C dX7_addCell_43 (by omega) (fun h43 => ?_) (fun h43 => ?_)
    · have y3 := b2_n0 h43
      refine w_iload C dX7_addCell_50 rfl ?_
      refine w_if_ne_n C dX7_addCell_52 (by omega) (by decide) ?_
      refine w_iconst C dX7_addCell_55 ?_
      refine w_goto C dX7_addCell_56 ?_
      refine w_callV C dX7_addCell_95 (c_X7_failsY hl 2 (by omega)) mX7_fails vX7_fails lk_X7_129 (by first | assumption | exact Nat.zero_lt_one | exact Nat.zero_lt_two | exact Nat.one_lt_two) rfl rfl rfl rfl ⟨by decide, by decide, by decide, by decide⟩ (Nat.le_of_ble_eq_true rfl) (fun _ _ h => h.elim) ⟨by decide, by decide⟩ (fun r_ MF q95 => ?_)
      obtain ⟨kF, kT, rfl⟩ := q95
      have hRF := hR.fr kF.fr
      refine w_if_eq_n C dX7_addCell_98 (by omega) (by decide) ?_
      refine w_iconst C dX7_addCell_101 ?_
      refine w_iret C hr dX7_addCell_102 rfl (by first | exact okM_no (i := 1) (by unfold oAddCell; rw [if_pos y3]) (by decide) rfl kT hRF | exact okM_no (i := 2) (by unfold oAddCell; rw [if_neg (fun q => q y3), if_pos (by omega)]) (by decide) rfl kT hRF | exact okM_no (i := 3) (by unfold oAddCell; rw [if_neg (by omega), if_neg (by omega), Int.toNat_natCast, Int.toNat_natCast, Int.toNat_natCast, if_pos (by omega)]) (by decide) rfl kT hRF | exact okM_no (i := 4) (by unfold oAddCell; rw [if_neg (by omega), if_neg (by omega), Int.toNat_natCast, Int.toNat_natCast, Int.toNat_natCast, if_neg (by omega), if_pos (by first | exact Or.inl y5 | exact Or.inr y6)]) (by decide) rfl kT hRF) (by decide) (by decide)
    · have y3 := b2_is0 (Decidable.not_not.mp h43)
      refine w_iconst C dX7_addCell_46 ?_
      refine w_goto C dX7_addCell_47 ?_
      refine w_callV C dX7_addCell_95 (c_X7_failsY hl 1 (by omega)) mX7_fails vX7_fails lk_X7_129 (by first | assumption | exact Nat.zero_lt_one | exact Nat.zero_lt_two | exact Nat.one_lt_two) rfl rfl rfl rfl ⟨by decide, by decide, by decide, by decide⟩ (Nat.le_of_ble_eq_true rfl) (fun _ _ h => h.elim) ⟨by decide, by decide⟩ (fun r_ MF q95 => ?_)
      obtain ⟨kF, kT, rfl⟩ := q95
      have hRF := hR.fr kF.fr
      refine w_if_eq_n C dX7_addCell_98 (by omega) (by decide) ?_
      refine w_iconst C dX7_addCell_101 ?_
      refine w_iret C hr dX7_addCell_102 rfl (by first | exact okM_no (i := 1) (by unfold oAddCell; rw [if_pos y3]) (by decide) rfl kT hRF | exact okM_no (i := 2) (by unfold oAddCell; rw [if_neg (fun q => q y3), if_pos (by omega)]) (by decide) rfl kT hRF | exact okM_no (i := 3) (by unfold oAddCell; rw [if_neg (by omega), if_neg (by omega), Int.toNat_natCast, Int.toNat_natCast, Int.toNat_natCast, if_pos (by omega)]) (by decide) rfl kT hRF | exact okM_no (i := 4) (by unfold oAddCell; rw [if_neg (by omega), if_neg (by omega), Int.toNat_natCast, Int.toNat_natCast, Int.toNat_natCast, if_neg (by omega), if_pos (by first | exact Or.inl y5 | exact Or.inr y6)]) (by decide) rfl kT hRF) (by decide) (by decide)
  · have y1 := b2_n0 h6
    refine w_iload_n C dX7_addCell_9 rfl ?_
    refine w_iconst C dX7_addCell_10 ?_
    refine w_iconst C dX7_addCell_11 ?_
    refine w_callS C dX7_addCell_12 (c_X7_in hl c' 0 4 (by omega) (by omega) (by omega)) mX7_in sX7_in lk_X7_122 rfl rfl ⟨by decide, by decide, by decide, by decide⟩ (Nat.le_of_ble_eq_true rfl) (fun _ _ h => h.elim) ⟨by decide, by decide⟩ (fun r_ M_ q12 => ?_)
    obtain ⟨rfl, rfl⟩ := q12
    refine w_if_eq C dX7_addCell_15 (by omega) (fun h15 => ?_) (fun h15 => ?_)
    · have y2 := b2_is0 h15
      refine w_iconst C dX7_addCell_22 ?_
      refine w_istore C dX7_addCell_23 (by decide) ?_
      refine w_bipush (v := 25) C dX7_addCell_25 rfl ?_
      refine w_iload_n C dX7_addCell_27 rfl ?_
      refine w_imul C dX7_addCell_28 ?_
      refine w_iconst C dX7_addCell_29 ?_
      refine w_iload_n C dX7_addCell_30 rfl ?_
      refine w_imul C dX7_addCell_31 ?_
      refine w_iadd C dX7_addCell_32 ?_
      refine w_iload_n C dX7_addCell_33 rfl ?_
      refine w_iadd C dX7_addCell_34 ?_
      refine w_istore C dX7_addCell_35 (by decide) ?_
      refine w_aload_n C dX7_addCell_37 rfl ?_
      refine w_aload_n C dX7_addCell_38 rfl ?_
      refine w_iload_n C dX7_addCell_39 rfl ?_
      refine w_callV C dX7_addCell_40 (c_X7_isShape hl hI.1 hR a ha) mX7_isShape vX7_isShape lk_X7_146 (by first | assumption | exact Nat.zero_lt_one | exact Nat.zero_lt_two | exact Nat.one_lt_two) rfl rfl rfl rfl ⟨by decide, by decide, by decide, by decide⟩ (Nat.le_of_ble_eq_true rfl) (fun _ _ h => h.elim) ⟨by decide, by decide⟩ (fun r_ M_ q40 => ?_)
      obtain ⟨rfl, rfl⟩ := q40
      refine w_if_ne C dX7_addCell_43 (by omega) (fun h43 => ?_) (fun h43 => ?_)
      · have y3 := b2_n0 h43
        refine w_iload C dX7_addCell_50 rfl ?_
        refine w_if_ne_n C dX7_addCell_52 (by omega) (by decide) ?_
        refine w_iconst C dX7_addCell_55 ?_
        refine w_goto C dX7_addCell_56 ?_
        refine w_callV C dX7_addCell_95 (c_X7_failsY hl 2 (by omega)) mX7_fails vX7_fails lk_X7_129 (by first | assumption | exact Nat.zero_lt_one | exact Nat.zero_lt_two | exact Nat.one_lt_two) rfl rfl rfl rfl ⟨by decide, by decide, by decide, by decide⟩ (Nat.le_of_ble_eq_true rfl) (fun _ _ h => h.elim) ⟨by decide, by decide⟩ (fun r_ MF q95 => ?_)
        obtain ⟨kF, kT, rfl⟩ := q95
        have hRF := hR.fr kF.fr
        refine w_if_eq_n C dX7_addCell_98 (by omega) (by decide) ?_
        refine w_iconst C dX7_addCell_101 ?_
        refine w_iret C hr dX7_addCell_102 rfl (by first | exact okM_no (i := 1) (by unfold oAddCell; rw [if_pos y3]) (by decide) rfl kT hRF | exact okM_no (i := 2) (by unfold oAddCell; rw [if_neg (fun q => q y3), if_pos (by omega)]) (by decide) rfl kT hRF | exact okM_no (i := 3) (by unfold oAddCell; rw [if_neg (by omega), if_neg (by omega), Int.toNat_natCast, Int.toNat_natCast, Int.toNat_natCast, if_pos (by omega)]) (by decide) rfl kT hRF | exact okM_no (i := 4) (by unfold oAddCell; rw [if_neg (by omega), if_neg (by omega), Int.toNat_natCast, Int.toNat_natCast, Int.toNat_natCast, if_neg (by omega), if_pos (by first | exact Or.inl y5 | exact Or.inr y6)]) (by decide) rfl kT hRF) (by decide) (by decide)
      · have y3 := b2_is0 (Decidable.not_not.mp h43)
        refine w_iconst C dX7_addCell_46 ?_
        refine w_goto C dX7_addCell_47 ?_
        refine w_callV C dX7_addCell_95 (c_X7_failsY hl 1 (by omega)) mX7_fails vX7_fails lk_X7_129 (by first | assumption | exact Nat.zero_lt_one | exact Nat.zero_lt_two | exact Nat.one_lt_two) rfl rfl rfl rfl ⟨by decide, by decide, by decide, by decide⟩ (Nat.le_of_ble_eq_true rfl) (fun _ _ h => h.elim) ⟨by decide, by decide⟩ (fun r_ MF q95 => ?_)
        obtain ⟨kF, kT, rfl⟩ := q95
        have hRF := hR.fr kF.fr
        refine w_if_eq_n C dX7_addCell_98 (by omega) (by decide) ?_
        refine w_iconst C dX7_addCell_101 ?_
        refine w_iret C hr dX7_addCell_102 rfl (by first | exact okM_no (i := 1) (by unfold oAddCell; rw [if_pos y3]) (by decide) rfl kT hRF | exact okM_no (i := 2) (by unfold oAddCell; rw [if_neg (fun q => q y3), if_pos (by omega)]) (by decide) rfl kT hRF | exact okM_no (i := 3) (by unfold oAddCell; rw [if_neg (by omega), if_neg (by omega), Int.toNat_natCast, Int.toNat_natCast, Int.toNat_natCast, if_pos (by omega)]) (by decide) rfl kT hRF | exact okM_no (i := 4) (by unfold oAddCell; rw [if_neg (by omega), if_neg (by omega), Int.toNat_natCast, Int.toNat_natCast, Int.toNat_natCast, if_neg (by omega), if_pos (by first | exact Or.inl y5 | exact Or.inr y6)]) (by decide) rfl kT hRF) (by decide) (by decide)
    · have y2 := b2_n0 h15
      refine w_iconst C dX7_addCell_18 ?_
      refine w_goto C dX7_addCell_19 ?_
      refine w_istore C dX7_addCell_23 (by decide) ?_
      refine w_bipush (v := 25) C dX7_addCell_25 rfl ?_
      refine w_iload_n C dX7_addCell_27 rfl ?_
      refine w_imul C dX7_addCell_28 ?_
      refine w_iconst C dX7_addCell_29 ?_
      refine w_iload_n C dX7_addCell_30 rfl ?_
      refine w_imul C dX7_addCell_31 ?_
      refine w_iadd C dX7_addCell_32 ?_
      refine w_iload_n C dX7_addCell_33 rfl ?_
      refine w_iadd C dX7_addCell_34 ?_
      refine w_istore C dX7_addCell_35 (by decide) ?_
      refine w_aload_n C dX7_addCell_37 rfl ?_
      refine w_aload_n C dX7_addCell_38 rfl ?_
      refine w_iload_n C dX7_addCell_39 rfl ?_
      refine w_callV C dX7_addCell_40 (c_X7_isShape hl hI.1 hR a ha) mX7_isShape vX7_isShape lk_X7_146 (by first | assumption | exact Nat.zero_lt_one | exact Nat.zero_lt_two | exact Nat.one_lt_two) rfl rfl rfl rfl ⟨by decide, by decide, by decide, by decide⟩ (Nat.le_of_ble_eq_true rfl) (fun _ _ h => h.elim) ⟨by decide, by decide⟩ (fun r_ M_ q40 => ?_)
      obtain ⟨rfl, rfl⟩ := q40
      refine w_if_ne C dX7_addCell_43 (by omega) (fun h43 => ?_) (fun h43 => ?_)
      · have y3 := b2_n0 h43
        refine w_iload C dX7_addCell_50 rfl ?_
        refine w_if_ne_y C dX7_addCell_52 (by omega) (by decide) ?_
        obtain ⟨u, rfl⟩ := Int.eq_ofNat_of_zero_le y3.1
        obtain ⟨v, rfl⟩ := Int.eq_ofNat_of_zero_le y1.1
        obtain ⟨w, rfl⟩ := Int.eq_ofNat_of_zero_le y2.1
        have d1 := hR.2.2.2.1 u (5 * v + w) (by omega) (by omega)
        have d2 := (hI.1.2.2.2.2.2.2.2.2.2.1 u).2.2.2.2.2.2.2.2 (5 * v + w)
        have q1 := (hR.2.2.1 u (by omega)).2.2.2.2.2.2.1
        have q2 := b2_01 (0 < eS S u)
        have q3 := b2_01 (heldS P u = true)
        refine w_aload_n C dX7_addCell_59 rfl ?_
        refine g_X7_24 C dX7_addCell_60 (by first | assumption | exact Nat.zero_lt_one | exact Nat.zero_lt_two | exact Nat.one_lt_two) ?_
        refine w_iload C dX7_addCell_63 rfl ?_
        refine w_zaldN (j := 25 * u + (5 * v + w)) C dX7_addCell_65 (by first | assumption | exact Nat.zero_lt_one | exact Nat.zero_lt_two | exact Nat.one_lt_two) ZA_43 (by omega) (by omega) ?_
        refine w_if_eq C dX7_addCell_66 (by omega) (fun h66 => ?_) (fun h66 => ?_)
        · refine w_aload_n C dX7_addCell_73 rfl ?_
          refine w_iload_n C dX7_addCell_74 rfl ?_
          refine w_callV C dX7_addCell_75 (c_X7_isLaid hl hI hR u (by omega)) mX7_isLaid vX7_isLaid lk_X7_149 (by first | assumption | exact Nat.zero_lt_one | exact Nat.zero_lt_two | exact Nat.one_lt_two) rfl rfl rfl rfl ⟨by decide, by decide, by decide, by decide⟩ (Nat.le_of_ble_eq_true rfl) (fun _ _ h => h.elim) ⟨by decide, by decide⟩ (fun r_ M_ q75 => ?_)
          obtain ⟨rfl, rfl⟩ := q75
          refine w_if_ne C dX7_addCell_78 (by omega) (fun h78 => ?_) (fun h78 => ?_)
          · have y5 := b2_n0 h78
            refine w_iconst C dX7_addCell_90 ?_
            refine w_goto C dX7_addCell_91 ?_
            refine w_callV C dX7_addCell_95 (c_X7_failsY hl 4 (by omega)) mX7_fails vX7_fails lk_X7_129 (by first | assumption | exact Nat.zero_lt_one | exact Nat.zero_lt_two | exact Nat.one_lt_two) rfl rfl rfl rfl ⟨by decide, by decide, by decide, by decide⟩ (Nat.le_of_ble_eq_true rfl) (fun _ _ h => h.elim) ⟨by decide, by decide⟩ (fun r_ MF q95 => ?_)
            obtain ⟨kF, kT, rfl⟩ := q95
            have hRF := hR.fr kF.fr
            refine w_if_eq_n C dX7_addCell_98 (by omega) (by decide) ?_
            refine w_iconst C dX7_addCell_101 ?_
            refine w_iret C hr dX7_addCell_102 rfl (by first | exact okM_no (i := 1) (by unfold oAddCell; rw [if_pos y3]) (by decide) rfl kT hRF | exact okM_no (i := 2) (by unfold oAddCell; rw [if_neg (fun q => q y3), if_pos (by omega)]) (by decide) rfl kT hRF | exact okM_no (i := 3) (by unfold oAddCell; rw [if_neg (by omega), if_neg (by omega), Int.toNat_natCast, Int.toNat_natCast, Int.toNat_natCast, if_pos (by omega)]) (by decide) rfl kT hRF | exact okM_no (i := 4) (by unfold oAddCell; rw [if_neg (by omega), if_neg (by omega), Int.toNat_natCast, Int.toNat_natCast, Int.toNat_natCast, if_neg (by omega), if_pos (by first | exact Or.inl y5 | exact Or.inr y6)]) (by decide) rfl kT hRF) (by decide) (by decide)
          · have y5 := b2_is0 (Decidable.not_not.mp h78)
            refine w_aload_n C dX7_addCell_81 rfl ?_
            refine g_X7_40 C dX7_addCell_82 (by first | assumption | exact Nat.zero_lt_one | exact Nat.zero_lt_two | exact Nat.one_lt_two) ?_
            refine w_iload_n C dX7_addCell_85 rfl ?_
            refine w_zaldN (j := u) C dX7_addCell_86 (by first | assumption | exact Nat.zero_lt_one | exact Nat.zero_lt_two | exact Nat.one_lt_two) ZA_44 (by omega) (by omega) ?_
            refine w_if_eq C dX7_addCell_87 (by omega) (fun h87 => ?_) (fun h87 => ?_)
            · have y6 : ¬ 0 < eS S u := b2_is0 (by omega)
              refine w_iconst C dX7_addCell_94 ?_
              refine w_callV C dX7_addCell_95 (c_X7_failsN hl 0 (by omega)) mX7_fails vX7_fails lk_X7_129 (by first | assumption | exact Nat.zero_lt_one | exact Nat.zero_lt_two | exact Nat.one_lt_two) rfl rfl rfl rfl ⟨by decide, by decide, by decide, by decide⟩ (Nat.le_of_ble_eq_true rfl) (fun _ _ h => h.elim) ⟨by decide, by decide⟩ (fun r_ MF q95 => ?_)
              obtain ⟨kF, kT, rfl⟩ := q95
              have hRF := hR.fr kF.fr
              refine w_if_eq_y C dX7_addCell_98 (by omega) (by decide) ?_
              refine w_aload_n C dX7_addCell_103 rfl ?_
              refine g_X7_24 C dX7_addCell_104 (by first | assumption | exact Nat.zero_lt_one | exact Nat.zero_lt_two | exact Nat.one_lt_two) ?_
              refine w_iload C dX7_addCell_107 rfl ?_
              refine w_iconst C dX7_addCell_109 ?_
              refine w_zastN (j := 25 * u + (5 * v + w)) C dX7_addCell_110 (by first | assumption | exact Nat.zero_lt_one | exact Nat.zero_lt_two | exact Nat.one_lt_two) ZA_43 (by omega) (by omega) (by omega) ?_
              refine w_aload_n C dX7_addCell_111 rfl ?_
              refine g_X7_27 C dX7_addCell_112 (by first | assumption | exact Nat.zero_lt_one | exact Nat.zero_lt_two | exact Nat.one_lt_two) ?_
              refine w_iload_n C dX7_addCell_115 rfl ?_
              refine w_dup2 C dX7_addCell_116 rfl rfl ?_
              refine w_ialdN (j := u) C dX7_addCell_117 (by first | assumption | exact Nat.zero_lt_one | exact Nat.zero_lt_two | exact Nat.one_lt_two) IA_48 (by omega) (by omega) ?_
              refine w_iconst C dX7_addCell_118 ?_
              refine w_iadd C dX7_addCell_119 ?_
              refine w_iastN (j := u) C dX7_addCell_120 (by first | assumption | exact Nat.zero_lt_one | exact Nat.zero_lt_two | exact Nat.one_lt_two) IA_48 (by omega) (by omega) ?_
              refine w_aload_n C dX7_addCell_121 rfl ?_
              refine g_X7_27 C dX7_addCell_122 (by first | assumption | exact Nat.zero_lt_one | exact Nat.zero_lt_two | exact Nat.one_lt_two) ?_
              refine w_iload_n C dX7_addCell_125 rfl ?_
              refine w_ialdN (j := u) C dX7_addCell_126 (by first | assumption | exact Nat.zero_lt_one | exact Nat.zero_lt_two | exact Nat.one_lt_two) IA_48 (by omega) (by omega) ?_
              refine w_iret C hr dX7_addCell_127 rfl (by
                  have hno : ∀ p ∈ P, pShp p ≠ u := fun p hp q => y5 (heldS_iff.mpr ⟨p, hp, q⟩)
                  have hs := (hRF.2.2.1 u (by omega)).2.2.1
                  refine okM_of (v := (szS S u : Int) + 1) (S' := up3 (up3 S 9 u (5 * v + w) 1) 10 u 0 (szS S u + 1)) (P' := P) (nx' := nx) (by unfold oAddCell; rw [if_neg (by omega), if_neg (by omega), Int.toNat_natCast, Int.toNat_natCast, Int.toNat_natCast, if_neg (by omega), if_neg (by rintro (q | q); exact y5 q; exact y6 q)]) ?_ kT ?_
                  · refine congrArg (fun z : Int => some (aI z)) ?_
                    rw [uI_get, if_pos ⟨rfl, rfl, rfl⟩, uI_get, if_neg (by omega), hs]
                  · refine hRF.sh (u := u) (fun f i q h => ?_) hno (fun s h1 h2 => ?_) rfl (fun k h1 h2 h3 j => ?_) (fun k h1 h2 j hj => ?_) (fun _ => ⟨?_, ?_, ?_, ?_⟩) (fun j k hj hk => ?_)
                    · rw [up3_ne _ _ (by omega), up3_ne _ _ (by omega)]
                    · rw [uI_get, if_neg (by omega), uI_get, if_neg (by omega)]
                    · rw [uI_get, if_neg (by omega), uI_get, if_neg (by omega)]
                    · rw [uI_get, if_neg (by omega), uI_get, if_neg (by omega)]
                    · rw [uI_get, if_pos ⟨rfl, rfl, rfl⟩, uI_get, if_neg (by omega), hs, show szS (up3 (up3 S 9 u (5 * v + w) 1) 10 u 0 (szS S u + 1)) u = szS S u + 1 from up3_eq _ _ _ _ _]
                      rfl
                    · rw [uI_get, if_neg (by omega), uI_get, if_neg (by omega), (hRF.2.2.1 u (by omega)).2.2.2.1]
                      rfl
                    · rw [uI_get, if_neg (by omega), uI_get, if_neg (by omega), (hRF.2.2.1 u (by omega)).2.2.2.2.1]
                      rfl
                    · rw [uI_get, if_neg (by omega), uI_get, if_neg (by omega), (hRF.2.2.1 u (by omega)).2.2.2.2.2.1]
                      rfl
                    · rw [uI_get, if_neg (by omega), uI_get, show drS (up3 (up3 S 9 u (5 * v + w) 1) 10 u 0 (szS S u + 1)) j k = up3 S 9 u (5 * v + w) 1 9 j k from up3_ne _ _ (by omega)]
                      by_cases hjk : j = u ∧ k = 5 * v + w
                      · rw [if_pos (by omega), hjk.1, hjk.2, up3_eq]
                        rfl
                      · rw [if_neg (by omega), up3_ne _ _ (by omega)]
                        exact hRF.2.2.2.1 j k hj hk) (by decide) (by decide)
            · have y6 : 0 < eS S u := b2_n0 (by omega)
              refine w_iconst C dX7_addCell_90 ?_
              refine w_goto C dX7_addCell_91 ?_
              refine w_callV C dX7_addCell_95 (c_X7_failsY hl 4 (by omega)) mX7_fails vX7_fails lk_X7_129 (by first | assumption | exact Nat.zero_lt_one | exact Nat.zero_lt_two | exact Nat.one_lt_two) rfl rfl rfl rfl ⟨by decide, by decide, by decide, by decide⟩ (Nat.le_of_ble_eq_true rfl) (fun _ _ h => h.elim) ⟨by decide, by decide⟩ (fun r_ MF q95 => ?_)
              obtain ⟨kF, kT, rfl⟩ := q95
              have hRF := hR.fr kF.fr
              refine w_if_eq_n C dX7_addCell_98 (by omega) (by decide) ?_
              refine w_iconst C dX7_addCell_101 ?_
              refine w_iret C hr dX7_addCell_102 rfl (by first | exact okM_no (i := 1) (by unfold oAddCell; rw [if_pos y3]) (by decide) rfl kT hRF | exact okM_no (i := 2) (by unfold oAddCell; rw [if_neg (fun q => q y3), if_pos (by omega)]) (by decide) rfl kT hRF | exact okM_no (i := 3) (by unfold oAddCell; rw [if_neg (by omega), if_neg (by omega), Int.toNat_natCast, Int.toNat_natCast, Int.toNat_natCast, if_pos (by omega)]) (by decide) rfl kT hRF | exact okM_no (i := 4) (by unfold oAddCell; rw [if_neg (by omega), if_neg (by omega), Int.toNat_natCast, Int.toNat_natCast, Int.toNat_natCast, if_neg (by omega), if_pos (by first | exact Or.inl y5 | exact Or.inr y6)]) (by decide) rfl kT hRF) (by decide) (by decide)
        · refine w_iconst C dX7_addCell_69 ?_
          refine w_goto C dX7_addCell_70 ?_
          refine w_callV C dX7_addCell_95 (c_X7_failsY hl 3 (by omega)) mX7_fails vX7_fails lk_X7_129 (by first | assumption | exact Nat.zero_lt_one | exact Nat.zero_lt_two | exact Nat.one_lt_two) rfl rfl rfl rfl ⟨by decide, by decide, by decide, by decide⟩ (Nat.le_of_ble_eq_true rfl) (fun _ _ h => h.elim) ⟨by decide, by decide⟩ (fun r_ MF q95 => ?_)
          obtain ⟨kF, kT, rfl⟩ := q95
          have hRF := hR.fr kF.fr
          refine w_if_eq_n C dX7_addCell_98 (by omega) (by decide) ?_
          refine w_iconst C dX7_addCell_101 ?_
          refine w_iret C hr dX7_addCell_102 rfl (by first | exact okM_no (i := 1) (by unfold oAddCell; rw [if_pos y3]) (by decide) rfl kT hRF | exact okM_no (i := 2) (by unfold oAddCell; rw [if_neg (fun q => q y3), if_pos (by omega)]) (by decide) rfl kT hRF | exact okM_no (i := 3) (by unfold oAddCell; rw [if_neg (by omega), if_neg (by omega), Int.toNat_natCast, Int.toNat_natCast, Int.toNat_natCast, if_pos (by omega)]) (by decide) rfl kT hRF | exact okM_no (i := 4) (by unfold oAddCell; rw [if_neg (by omega), if_neg (by omega), Int.toNat_natCast, Int.toNat_natCast, Int.toNat_natCast, if_neg (by omega), if_pos (by first | exact Or.inl y5 | exact Or.inr y6)]) (by decide) rfl kT hRF) (by decide) (by decide)
      · have y3 := b2_is0 (Decidable.not_not.mp h43)
        refine w_iconst C dX7_addCell_46 ?_
        refine w_goto C dX7_addCell_47 ?_
        refine w_callV C dX7_addCell_95 (c_X7_failsY hl 1 (by omega)) mX7_fails vX7_fails lk_X7_129 (by first | assumption | exact Nat.zero_lt_one | exact Nat.zero_lt_two | exact Nat.one_lt_two) rfl rfl rfl rfl ⟨by decide, by decide, by decide, by decide⟩ (Nat.le_of_ble_eq_true rfl) (fun _ _ h => h.elim) ⟨by decide, by decide⟩ (fun r_ MF q95 => ?_)
        obtain ⟨kF, kT, rfl⟩ := q95
        have hRF := hR.fr kF.fr
        refine w_if_eq_n C dX7_addCell_98 (by omega) (by decide) ?_
        refine w_iconst C dX7_addCell_101 ?_
        refine w_iret C hr dX7_addCell_102 rfl (by first | exact okM_no (i := 1) (by unfold oAddCell; rw [if_pos y3]) (by decide) rfl kT hRF | exact okM_no (i := 2) (by unfold oAddCell; rw [if_neg (fun q => q y3), if_pos (by omega)]) (by decide) rfl kT hRF | exact okM_no (i := 3) (by unfold oAddCell; rw [if_neg (by omega), if_neg (by omega), Int.toNat_natCast, Int.toNat_natCast, Int.toNat_natCast, if_pos (by omega)]) (by decide) rfl kT hRF | exact okM_no (i := 4) (by unfold oAddCell; rw [if_neg (by omega), if_neg (by omega), Int.toNat_natCast, Int.toNat_natCast, Int.toNat_natCast, if_neg (by omega), if_pos (by first | exact Or.inl y5 | exact Or.inr y6)]) (by decide) rfl kT hRF) (by decide) (by decide)
theorem c_X7_setMark (hl : l.stackTraces = false) {S : Sg} {P : List Pc} {nx : Nat} (hI : Inv S P nx) (hR : RepMo S P nx M) (a g b c' : Int) (ha : -2147483648 ≤ a ∧ a ≤ 2147483647) (hg : -2147483648 ≤ g ∧ g ≤ 2147483647) (hb : -2147483648 ≤ b ∧ b ≤ 2147483647) (hc : -2147483648 ≤ c' ∧ c' ≤ 2147483647) : Con l b0 yX7_setMark cX7_setMark 7 (some .int) 3 0 0 [aO 40 0, aI a, aI g, aI b, aI c'] ad cntM M (okM (oSetMark a g b c' S P nx)) noX := by
  have g6 := hI.1.2.2.2.2.2.1
  have b0' := b2_01 (-1 ≤ g ∧ g ≤ 3)
  have b1 := b2_01 (0 ≤ b ∧ b ≤ 4)
  have b3 := b2_01 (0 ≤ c' ∧ c' ≤ 4)
  have b4 := b2_01 (0 ≤ a ∧ a < nsS S)
  refine Con.of hl pl_X7 (Nat.le_of_ble_eq_true rfl) ?_
  intro D cA p e s m args below meth c C hr
  refine w_iload_n C dX7_setMark_0 rfl ?_
  refine w_iconst C dX7_setMark_1 ?_
  refine w_iconst C dX7_setMark_2 ?_
  refine w_callS C dX7_setMark_3 (c_X7_in hl g (-1) 3 (by omega) (by omega) (by omega)) mX7_in sX7_in lk_X7_122 rfl rfl ⟨by decide, by decide, by decide, by decide⟩ (Nat.le_of_ble_eq_true rfl) (fun _ _ h => h.elim) ⟨by decide, by decide⟩ (fun r_ M_ q3 => ?_)
  obtain ⟨rfl, rfl⟩ := q3
  refine w_if_eq C dX7_setMark_6 (by omega) (fun h6 => ?_) (fun h6 => ?_)
  · have y0 := b2_is0 h6
    refine w_iconst C dX7_setMark_32 ?_
    refine w_istore C dX7_setMark_33 (by decide) ?_
    refine w_aload_n C dX7_setMark_35 rfl ?_
    refine w_aload_n C dX7_setMark_36 rfl ?_
    refine w_iload_n C dX7_setMark_37 rfl ?_
    refine w_callV C dX7_setMark_38 (c_X7_isShape hl hI.1 hR a ha) mX7_isShape vX7_isShape lk_X7_146 (by first | assumption | exact Nat.zero_lt_one | exact Nat.zero_lt_two | exact Nat.one_lt_two) rfl rfl rfl rfl ⟨by decide, by decide, by decide, by decide⟩ (Nat.le_of_ble_eq_true rfl) (fun _ _ h => h.elim) ⟨by decide, by decide⟩ (fun r_ M_ q38 => ?_)
    obtain ⟨rfl, rfl⟩ := q38
    refine w_if_ne C dX7_setMark_41 (by omega) (fun h41 => ?_) (fun h41 => ?_)
    · have y3 := b2_n0 h41
      refine w_iload C dX7_setMark_48 rfl ?_
      refine w_if_ne_n C dX7_setMark_50 (by omega) (by decide) ?_
      refine w_iconst C dX7_setMark_53 ?_
      refine w_goto C dX7_setMark_54 ?_
      refine w_callV C dX7_setMark_70 (c_X7_failsY hl 2 (by omega)) mX7_fails vX7_fails lk_X7_129 (by first | assumption | exact Nat.zero_lt_one | exact Nat.zero_lt_two | exact Nat.one_lt_two) rfl rfl rfl rfl ⟨by decide, by decide, by decide, by decide⟩ (Nat.le_of_ble_eq_true rfl) (fun _ _ h => h.elim) ⟨by decide, by decide⟩ (fun r_ MF q70 => ?_)
      obtain ⟨kF, kT, rfl⟩ := q70
      have hRF := hR.fr kF.fr
      refine w_if_eq_n C dX7_setMark_73 (by omega) (by decide) ?_
      refine w_iconst C dX7_setMark_76 ?_
      refine w_iret C hr dX7_setMark_77 rfl (by first | exact okM_no (i := 1) (by unfold oSetMark; rw [if_pos y3]) (by decide) rfl kT hRF | exact okM_no (i := 2) (by unfold oSetMark; rw [if_neg (fun q => q y3), if_pos (by omega)]) (by decide) rfl kT hRF | exact okM_no (i := 3) (by unfold oSetMark; rw [if_neg (by omega), if_neg (by omega), Int.toNat_natCast, if_pos y5]) (by decide) rfl kT hRF) (by decide) (by decide)
    · have y3 := b2_is0 (Decidable.not_not.mp h41)
      refine w_iconst C dX7_setMark_44 ?_
      refine w_goto C dX7_setMark_45 ?_
      refine w_callV C dX7_setMark_70 (c_X7_failsY hl 1 (by omega)) mX7_fails vX7_fails lk_X7_129 (by first | assumption | exact Nat.zero_lt_one | exact Nat.zero_lt_two | exact Nat.one_lt_two) rfl rfl rfl rfl ⟨by decide, by decide, by decide, by decide⟩ (Nat.le_of_ble_eq_true rfl) (fun _ _ h => h.elim) ⟨by decide, by decide⟩ (fun r_ MF q70 => ?_)
      obtain ⟨kF, kT, rfl⟩ := q70
      have hRF := hR.fr kF.fr
      refine w_if_eq_n C dX7_setMark_73 (by omega) (by decide) ?_
      refine w_iconst C dX7_setMark_76 ?_
      refine w_iret C hr dX7_setMark_77 rfl (by first | exact okM_no (i := 1) (by unfold oSetMark; rw [if_pos y3]) (by decide) rfl kT hRF | exact okM_no (i := 2) (by unfold oSetMark; rw [if_neg (fun q => q y3), if_pos (by omega)]) (by decide) rfl kT hRF | exact okM_no (i := 3) (by unfold oSetMark; rw [if_neg (by omega), if_neg (by omega), Int.toNat_natCast, if_pos y5]) (by decide) rfl kT hRF) (by decide) (by decide)
  · have y0 := b2_n0 h6
    refine w_iload_n C dX7_setMark_9 rfl ?_
    refine w_iconst C dX7_setMark_10 ?_
    refine w_iconst C dX7_setMark_11 ?_
    refine w_callS C dX7_setMark_12 (c_X7_in hl b 0 4 (by omega) (by omega) (by omega)) mX7_in sX7_in lk_X7_122 rfl rfl ⟨by decide, by decide, by decide, by decide⟩ (Nat.le_of_ble_eq_true rfl) (fun _ _ h => h.elim) ⟨by decide, by decide⟩ (fun r_ M_ q12 => ?_)
    obtain ⟨rfl, rfl⟩ := q12
    refine w_if_eq C dX7_setMark_15 (by omega) (fun h15 => ?_) (fun h15 => ?_)
    · have y1 := b2_is0 h15
      refine w_iconst C dX7_setMark_32 ?_
      refine w_istore C dX7_setMark_33 (by decide) ?_
      refine w_aload_n C dX7_setMark_35 rfl ?_
      refine w_aload_n C dX7_setMark_36 rfl ?_
      refine w_iload_n C dX7_setMark_37 rfl ?_
      refine w_callV C dX7_setMark_38 (c_X7_isShape hl hI.1 hR a ha) mX7_isShape vX7_isShape lk_X7_146 (by first | assumption | exact Nat.zero_lt_one | exact Nat.zero_lt_two | exact Nat.one_lt_two) rfl rfl rfl rfl ⟨by decide, by decide, by decide, by decide⟩ (Nat.le_of_ble_eq_true rfl) (fun _ _ h => h.elim) ⟨by decide, by decide⟩ (fun r_ M_ q38 => ?_)
      obtain ⟨rfl, rfl⟩ := q38
      refine w_if_ne C dX7_setMark_41 (by omega) (fun h41 => ?_) (fun h41 => ?_)
      · have y3 := b2_n0 h41
        refine w_iload C dX7_setMark_48 rfl ?_
        refine w_if_ne_n C dX7_setMark_50 (by omega) (by decide) ?_
        refine w_iconst C dX7_setMark_53 ?_
        refine w_goto C dX7_setMark_54 ?_
        refine w_callV C dX7_setMark_70 (c_X7_failsY hl 2 (by omega)) mX7_fails vX7_fails lk_X7_129 (by first | assumption | exact Nat.zero_lt_one | exact Nat.zero_lt_two | exact Nat.one_lt_two) rfl rfl rfl rfl ⟨by decide, by decide, by decide, by decide⟩ (Nat.le_of_ble_eq_true rfl) (fun _ _ h => h.elim) ⟨by decide, by decide⟩ (fun r_ MF q70 => ?_)
        obtain ⟨kF, kT, rfl⟩ := q70
        have hRF := hR.fr kF.fr
        refine w_if_eq_n C dX7_setMark_73 (by omega) (by decide) ?_
        refine w_iconst C dX7_setMark_76 ?_
        refine w_iret C hr dX7_setMark_77 rfl (by first | exact okM_no (i := 1) (by unfold oSetMark; rw [if_pos y3]) (by decide) rfl kT hRF | exact okM_no (i := 2) (by unfold oSetMark; rw [if_neg (fun q => q y3), if_pos (by omega)]) (by decide) rfl kT hRF | exact okM_no (i := 3) (by unfold oSetMark; rw [if_neg (by omega), if_neg (by omega), Int.toNat_natCast, if_pos y5]) (by decide) rfl kT hRF) (by decide) (by decide)
      · have y3 := b2_is0 (Decidable.not_not.mp h41)
        refine w_iconst C dX7_setMark_44 ?_
        refine w_goto C dX7_setMark_45 ?_
        refine w_callV C dX7_setMark_70 (c_X7_failsY hl 1 (by omega)) mX7_fails vX7_fails lk_X7_129 (by first | assumption | exact Nat.zero_lt_one | exact Nat.zero_lt_two | exact Nat.one_lt_two) rfl rfl rfl rfl ⟨by decide, by decide, by decide, by decide⟩ (Nat.le_of_ble_eq_true rfl) (fun _ _ h => h.elim) ⟨by decide, by decide⟩ (fun r_ MF q70 => ?_)
        obtain ⟨kF, kT, rfl⟩ := q70
        have hRF := hR.fr kF.fr
        refine w_if_eq_n C dX7_setMark_73 (by omega) (by decide) ?_
        refine w_iconst C dX7_setMark_76 ?_
        refine w_iret C hr dX7_setMark_77 rfl (by first | exact okM_no (i := 1) (by unfold oSetMark; rw [if_pos y3]) (by decide) rfl kT hRF | exact okM_no (i := 2) (by unfold oSetMark; rw [if_neg (fun q => q y3), if_pos (by omega)]) (by decide) rfl kT hRF | exact okM_no (i := 3) (by unfold oSetMark; rw [if_neg (by omega), if_neg (by omega), Int.toNat_natCast, if_pos y5]) (by decide) rfl kT hRF) (by decide) (by decide)
    · have y1 := b2_n0 h15
      refine w_iload C dX7_setMark_18 rfl ?_
      refine w_iconst C dX7_setMark_20 ?_
      refine w_iconst C dX7_setMark_21 ?_
      refine w_callS C dX7_setMark_22 (c_X7_in hl c' 0 4 (by omega) (by omega) (by omega)) mX7_in sX7_in lk_X7_122 rfl rfl ⟨by decide, by decide, by decide, by decide⟩ (Nat.le_of_ble_eq_true rfl) (fun _ _ h => h.elim) ⟨by decide, by decide⟩ (fun r_ M_ q22 => ?_)
      obtain ⟨rfl, rfl⟩ := q22
      refine w_if_eq C dX7_setMark_25 (by omega) (fun h25 => ?_) (fun h25 => ?_)
      · have y2 := b2_is0 h25
        refine w_iconst C dX7_setMark_32 ?_
        refine w_istore C dX7_setMark_33 (by decide) ?_
        refine w_aload_n C dX7_setMark_35 rfl ?_
        refine w_aload_n C dX7_setMark_36 rfl ?_
        refine w_iload_n C dX7_setMark_37 rfl ?_
        refine w_callV C dX7_setMark_38 (c_X7_isShape hl hI.1 hR a ha) mX7_isShape vX7_isShape lk_X7_146 (by first | assumption | exact Nat.zero_lt_one | exact Nat.zero_lt_two | exact Nat.one_lt_two) rfl rfl rfl rfl ⟨by decide, by decide, by decide, by decide⟩ (Nat.le_of_ble_eq_true rfl) (fun _ _ h => h.elim) ⟨by decide, by decide⟩ (fun r_ M_ q38 => ?_)
        obtain ⟨rfl, rfl⟩ := q38
        refine w_if_ne C dX7_setMark_41 (by omega) (fun h41 => ?_) (fun h41 => ?_)
        · have y3 := b2_n0 h41
          refine w_iload C dX7_setMark_48 rfl ?_
          refine w_if_ne_n C dX7_setMark_50 (by omega) (by decide) ?_
          refine w_iconst C dX7_setMark_53 ?_
          refine w_goto C dX7_setMark_54 ?_
          refine w_callV C dX7_setMark_70 (c_X7_failsY hl 2 (by omega)) mX7_fails vX7_fails lk_X7_129 (by first | assumption | exact Nat.zero_lt_one | exact Nat.zero_lt_two | exact Nat.one_lt_two) rfl rfl rfl rfl ⟨by decide, by decide, by decide, by decide⟩ (Nat.le_of_ble_eq_true rfl) (fun _ _ h => h.elim) ⟨by decide, by decide⟩ (fun r_ MF q70 => ?_)
          obtain ⟨kF, kT, rfl⟩ := q70
          have hRF := hR.fr kF.fr
          refine w_if_eq_n C dX7_setMark_73 (by omega) (by decide) ?_
          refine w_iconst C dX7_setMark_76 ?_
          refine w_iret C hr dX7_setMark_77 rfl (by first | exact okM_no (i := 1) (by unfold oSetMark; rw [if_pos y3]) (by decide) rfl kT hRF | exact okM_no (i := 2) (by unfold oSetMark; rw [if_neg (fun q => q y3), if_pos (by omega)]) (by decide) rfl kT hRF | exact okM_no (i := 3) (by unfold oSetMark; rw [if_neg (by omega), if_neg (by omega), Int.toNat_natCast, if_pos y5]) (by decide) rfl kT hRF) (by decide) (by decide)
        · have y3 := b2_is0 (Decidable.not_not.mp h41)
          refine w_iconst C dX7_setMark_44 ?_
          refine w_goto C dX7_setMark_45 ?_
          refine w_callV C dX7_setMark_70 (c_X7_failsY hl 1 (by omega)) mX7_fails vX7_fails lk_X7_129 (by first | assumption | exact Nat.zero_lt_one | exact Nat.zero_lt_two | exact Nat.one_lt_two) rfl rfl rfl rfl ⟨by decide, by decide, by decide, by decide⟩ (Nat.le_of_ble_eq_true rfl) (fun _ _ h => h.elim) ⟨by decide, by decide⟩ (fun r_ MF q70 => ?_)
          obtain ⟨kF, kT, rfl⟩ := q70
          have hRF := hR.fr kF.fr
          refine w_if_eq_n C dX7_setMark_73 (by omega) (by decide) ?_
          refine w_iconst C dX7_setMark_76 ?_
          refine w_iret C hr dX7_setMark_77 rfl (by first | exact okM_no (i := 1) (by unfold oSetMark; rw [if_pos y3]) (by decide) rfl kT hRF | exact okM_no (i := 2) (by unfold oSetMark; rw [if_neg (fun q => q y3), if_pos (by omega)]) (by decide) rfl kT hRF | exact okM_no (i := 3) (by unfold oSetMark; rw [if_neg (by omega), if_neg (by omega), Int.toNat_natCast, if_pos y5]) (by decide) rfl kT hRF) (by decide) (by decide)
      · have y2 := b2_n0 h25
        refine w_iconst C dX7_setMark_28 ?_
        refine w_goto C dX7_setMark_29 ?_
        refine w_istore C dX7_setMark_33 (by decide) ?_
        refine w_aload_n C dX7_setMark_35 rfl ?_
        refine w_aload_n C dX7_setMark_36 rfl ?_
        refine w_iload_n C dX7_setMark_37 rfl ?_
        refine w_callV C dX7_setMark_38 (c_X7_isShape hl hI.1 hR a ha) mX7_isShape vX7_isShape lk_X7_146 (by first | assumption | exact Nat.zero_lt_one | exact Nat.zero_lt_two | exact Nat.one_lt_two) rfl rfl rfl rfl ⟨by decide, by decide, by decide, by decide⟩ (Nat.le_of_ble_eq_true rfl) (fun _ _ h => h.elim) ⟨by decide, by decide⟩ (fun r_ M_ q38 => ?_)
        obtain ⟨rfl, rfl⟩ := q38
        refine w_if_ne C dX7_setMark_41 (by omega) (fun h41 => ?_) (fun h41 => ?_)
        · have y3 := b2_n0 h41
          refine w_iload C dX7_setMark_48 rfl ?_
          refine w_if_ne_y C dX7_setMark_50 (by omega) (by decide) ?_
          obtain ⟨u, rfl⟩ := Int.eq_ofNat_of_zero_le y3.1
          have q3 := b2_01 (heldS P u = true)
          refine w_aload_n C dX7_setMark_57 rfl ?_
          refine w_iload_n C dX7_setMark_58 rfl ?_
          refine w_callV C dX7_setMark_59 (c_X7_isLaid hl hI hR u (by omega)) mX7_isLaid vX7_isLaid lk_X7_149 (by first | assumption | exact Nat.zero_lt_one | exact Nat.zero_lt_two | exact Nat.one_lt_two) rfl rfl rfl rfl ⟨by decide, by decide, by decide, by decide⟩ (Nat.le_of_ble_eq_true rfl) (fun _ _ h => h.elim) ⟨by decide, by decide⟩ (fun r_ M_ q59 => ?_)
          obtain ⟨rfl, rfl⟩ := q59
          refine w_if_eq C dX7_setMark_62 (by omega) (fun h62 => ?_) (fun h62 => ?_)
          · have y5 := b2_is0 h62
            refine w_iconst C dX7_setMark_69 ?_
            refine w_callV C dX7_setMark_70 (c_X7_failsN hl 0 (by omega)) mX7_fails vX7_fails lk_X7_129 (by first | assumption | exact Nat.zero_lt_one | exact Nat.zero_lt_two | exact Nat.one_lt_two) rfl rfl rfl rfl ⟨by decide, by decide, by decide, by decide⟩ (Nat.le_of_ble_eq_true rfl) (fun _ _ h => h.elim) ⟨by decide, by decide⟩ (fun r_ MF q70 => ?_)
            obtain ⟨kF, kT, rfl⟩ := q70
            have hRF := hR.fr kF.fr
            refine w_if_eq_y C dX7_setMark_73 (by omega) (by decide) ?_
            refine w_aload_n C dX7_setMark_78 rfl ?_
            refine g_X7_31 C dX7_setMark_79 (by first | assumption | exact Nat.zero_lt_one | exact Nat.zero_lt_two | exact Nat.one_lt_two) ?_
            refine w_iload_n C dX7_setMark_82 rfl ?_
            refine w_ialdN (j := u) C dX7_setMark_83 (by first | assumption | exact Nat.zero_lt_one | exact Nat.zero_lt_two | exact Nat.one_lt_two) IA_49 (by omega) (by omega) ?_
            refine w_istore C dX7_setMark_84 (by decide) ?_
            refine w_aload_n C dX7_setMark_86 rfl ?_
            refine g_X7_31 C dX7_setMark_87 (by first | assumption | exact Nat.zero_lt_one | exact Nat.zero_lt_two | exact Nat.one_lt_two) ?_
            refine w_iload_n C dX7_setMark_90 rfl ?_
            refine w_iload_n C dX7_setMark_91 rfl ?_
            refine w_iastN (j := u) C dX7_setMark_92 (by first | assumption | exact Nat.zero_lt_one | exact Nat.zero_lt_two | exact Nat.one_lt_two) IA_49 (by omega) (by omega) ?_
            refine w_aload_n C dX7_setMark_93 rfl ?_
            refine g_X7_34 C dX7_setMark_94 (by first | assumption | exact Nat.zero_lt_one | exact Nat.zero_lt_two | exact Nat.one_lt_two) ?_
            refine w_iload_n C dX7_setMark_97 rfl ?_
            refine w_iload_n C dX7_setMark_98 rfl ?_
            refine w_iastN (j := u) C dX7_setMark_99 (by first | assumption | exact Nat.zero_lt_one | exact Nat.zero_lt_two | exact Nat.one_lt_two) IA_50 (by omega) (by omega) ?_
            refine w_aload_n C dX7_setMark_100 rfl ?_
            refine g_X7_37 C dX7_setMark_101 (by first | assumption | exact Nat.zero_lt_one | exact Nat.zero_lt_two | exact Nat.one_lt_two) ?_
            refine w_iload_n C dX7_setMark_104 rfl ?_
            refine w_iload C dX7_setMark_105 rfl ?_
            refine w_iastN (j := u) C dX7_setMark_107 (by first | assumption | exact Nat.zero_lt_one | exact Nat.zero_lt_two | exact Nat.one_lt_two) IA_51 (by omega) (by omega) ?_
            refine w_iload C dX7_setMark_108 rfl ?_
            refine w_iret C hr dX7_setMark_110 rfl (by
                have hno : ∀ p ∈ P, pShp p ≠ u := fun p hp q => y5 (heldS_iff.mpr ⟨p, hp, q⟩)
                have hs := hRF.2.2.1 u (by omega)
                refine okM_of (v := (gpS S u : Int) - 1) (S' := up3 (up3 (up3 S 11 u 0 (g + 1).toNat) 12 u 0 b.toNat) 13 u 0 c'.toNat) (P' := P) (nx' := nx) (by unfold oSetMark; rw [if_neg (by omega), if_neg (by omega), Int.toNat_natCast, if_neg y5]) (congrArg (fun z : Int => some (aI z)) hs.2.2.2.1) kT ?_
                refine hRF.sh (u := u) (fun f i q h => ?_) hno (fun s h1 h2 => ?_) rfl (fun k h1 h2 h3 j => ?_) (fun k h1 h2 j hj => ?_) (fun _ => ⟨?_, ?_, ?_, ?_⟩) (fun j k hj hk => ?_)
                · rw [up3_ne _ _ (by omega), up3_ne _ _ (by omega), up3_ne _ _ (by omega)]
                · rw [uI_get, if_neg (by omega), uI_get, if_neg (by omega), uI_get, if_neg (by omega)]
                · rw [uI_get, if_neg (by omega), uI_get, if_neg (by omega), uI_get, if_neg (by omega)]
                · rw [uI_get, if_neg (by omega), uI_get, if_neg (by omega), uI_get, if_neg (by omega)]
                · rw [uI_get, if_neg (by omega), uI_get, if_neg (by omega), uI_get, if_neg (by omega), hs.2.2.1]
                  rfl
                · rw [uI_get, if_neg (by omega), uI_get, if_neg (by omega), uI_get, if_pos ⟨rfl, rfl, rfl⟩, show gpS (up3 (up3 (up3 S 11 u 0 (g + 1).toNat) 12 u 0 b.toNat) 13 u 0 c'.toNat) u = (g + 1).toNat from (up3_ne _ _ (by omega)).trans ((up3_ne _ _ (by omega)).trans (up3_eq _ _ _ _ _))]
                  omega
                · rw [uI_get, if_neg (by omega), uI_get, if_pos ⟨rfl, rfl, rfl⟩, show mrS (up3 (up3 (up3 S 11 u 0 (g + 1).toNat) 12 u 0 b.toNat) 13 u 0 c'.toNat) u = b.toNat from (up3_ne _ _ (by omega)).trans (up3_eq _ _ _ _ _)]
                  omega
                · rw [uI_get, if_pos ⟨rfl, rfl, rfl⟩, show mcS (up3 (up3 (up3 S 11 u 0 (g + 1).toNat) 12 u 0 b.toNat) 13 u 0 c'.toNat) u = c'.toNat from up3_eq _ _ _ _ _]
                  omega
                · rw [uI_get, if_neg (by omega), uI_get, if_neg (by omega), uI_get, if_neg (by omega)]
                  exact hRF.2.2.2.1 j k hj hk) (by decide) (by decide)
          · have y5 := b2_n0 h62
            refine w_iconst C dX7_setMark_65 ?_
            refine w_goto C dX7_setMark_66 ?_
            refine w_callV C dX7_setMark_70 (c_X7_failsY hl 3 (by omega)) mX7_fails vX7_fails lk_X7_129 (by first | assumption | exact Nat.zero_lt_one | exact Nat.zero_lt_two | exact Nat.one_lt_two) rfl rfl rfl rfl ⟨by decide, by decide, by decide, by decide⟩ (Nat.le_of_ble_eq_true rfl) (fun _ _ h => h.elim) ⟨by decide, by decide⟩ (fun r_ MF q70 => ?_)
            obtain ⟨kF, kT, rfl⟩ := q70
            have hRF := hR.fr kF.fr
            refine w_if_eq_n C dX7_setMark_73 (by omega) (by decide) ?_
            refine w_iconst C dX7_setMark_76 ?_
            refine w_iret C hr dX7_setMark_77 rfl (by first | exact okM_no (i := 1) (by unfold oSetMark; rw [if_pos y3]) (by decide) rfl kT hRF | exact okM_no (i := 2) (by unfold oSetMark; rw [if_neg (fun q => q y3), if_pos (by omega)]) (by decide) rfl kT hRF | exact okM_no (i := 3) (by unfold oSetMark; rw [if_neg (by omega), if_neg (by omega), Int.toNat_natCast, if_pos y5]) (by decide) rfl kT hRF) (by decide) (by decide)
        · have y3 := b2_is0 (Decidable.not_not.mp h41)
          refine w_iconst C dX7_setMark_44 ?_
          refine w_goto C dX7_setMark_45 ?_
          refine w_callV C dX7_setMark_70 (c_X7_failsY hl 1 (by omega)) mX7_fails vX7_fails lk_X7_129 (by first | assumption | exact Nat.zero_lt_one | exact Nat.zero_lt_two | exact Nat.one_lt_two) rfl rfl rfl rfl ⟨by decide, by decide, by decide, by decide⟩ (Nat.le_of_ble_eq_true rfl) (fun _ _ h => h.elim) ⟨by decide, by decide⟩ (fun r_ MF q70 => ?_)
          obtain ⟨kF, kT, rfl⟩ := q70
          have hRF := hR.fr kF.fr
          refine w_if_eq_n C dX7_setMark_73 (by omega) (by decide) ?_
          refine w_iconst C dX7_setMark_76 ?_
          refine w_iret C hr dX7_setMark_77 rfl (by first | exact okM_no (i := 1) (by unfold oSetMark; rw [if_pos y3]) (by decide) rfl kT hRF | exact okM_no (i := 2) (by unfold oSetMark; rw [if_neg (fun q => q y3), if_pos (by omega)]) (by decide) rfl kT hRF | exact okM_no (i := 3) (by unfold oSetMark; rw [if_neg (by omega), if_neg (by omega), Int.toNat_natCast, if_pos y5]) (by decide) rfl kT hRF) (by decide) (by decide)
theorem plc_app {A : List Pc} {q : Pc} {z : Int} (hu : ∀ i, slotS A z = some i → (pNum q : Int) ≠ z) : plc (A ++ [q]) z = if (pNum q : Int) = z then (A.length : Int) else plc A z := by
  unfold plc slotS at *
  rw [List.findIdx?_append]
  cases h : A.findIdx? (fun p => decide ((pNum p : Int) = z)) with
  | some i => rw [if_neg (hu i h)]; rfl
  | none =>
    by_cases hz : (pNum q : Int) = z
    · rw [if_pos hz]
      simp [List.findIdx?_cons, hz]
    · rw [if_neg hz]
      simp [List.findIdx?_cons, hz]
theorem plc_some {P : List Pc} {z : Int} {i : Nat} (h : slotS P z = some i) : i < P.length ∧ ∃ q, P[i]? = some q ∧ (pNum q : Int) = z ∧ P.getD i (0, 0, 0, 0, 0, 0) = q := by
  unfold slotS at h
  obtain ⟨h1, h2, -⟩ := List.findIdx?_eq_some_iff_getElem.mp h
  refine ⟨h1, P[i], List.getElem?_eq_getElem h1, of_decide_eq_true h2, ?_⟩
  rw [List.getD_eq_getElem?_getD, List.getElem?_eq_getElem h1]
  rfl
theorem c_X7_placeOf (hl : l.stackTraces = false) {S : Sg} {P : List Pc} {nx : Nat} (hI : Inv S P nx) (hnx : nx < 1000000) (hR : RepMo S P nx M) (z : Int) (hz : -2147483648 ≤ z ∧ z ≤ 2147483647) : Con l b0 yX7_placeOf cX7_placeOf 4 (some .int) 1 0 0 [aO 40 0, aI z] ad cntM M (fun r M' => M' = M ∧ r = some (aI (plc P z))) noX := by
  have e17 := hR.1.2.2.2.2.2.2.1
  have hP := hI.2.2.1
  refine Con.of hl pl_X7 (Nat.le_of_ble_eq_true rfl) ?_
  intro D cA p e s m args below meth c C hr
  have loop : ∀ (b n : Nat) (A B : List Pc), P = A ++ B → A.length = n → B.length = b → Wm p l e (rmd 1 0 0) s m args below meth c 4 D cA b0 0 0 (vx_MQ below (mQ D cA b0 ad cntM (fun r M' => M' = M ∧ r = some (aI (plc P z)))) (mX D cA b0 ad cntM noX) args s 0 0 b0) 4 [(0, aO 40 0), (1, aI z), (2, aI (plc A z)), (3, aI n)] [] ad cntM M := by
    intro b
    induction b with
    | zero =>
      intro n A B hAB hA hB
      have hlen : P.length = n := by rw [hAB, List.length_append, hA, hB]; rfl
      refine w_iload_n C dX7_placeOf_4 rfl ?_
      refine w_aload_n C dX7_placeOf_5 rfl ?_
      refine g_X7_112 C dX7_placeOf_6 (by first | assumption | exact Nat.zero_lt_one | exact Nat.zero_lt_two | exact Nat.one_lt_two) ?_
      refine w_icmp_ge C dX7_placeOf_9 (by omega) (by omega) (fun h9 => ?_) (fun h9 => ?_)
      · refine w_iload_n C dX7_placeOf_34 rfl ?_
        refine w_iret C hr dX7_placeOf_35 rfl (⟨rfl, by rw [hAB, List.length_eq_zero_iff.mp hB, List.append_nil]⟩) (by decide) (by decide)
      · omega
    | succ b ih =>
      intro n A B hAB hA hB
      obtain ⟨q, B', rfl⟩ := lst_cons hB
      have hlen : P.length = n + (b + 1) := by rw [hAB, List.length_append, hA, hB]
      have hq : P[n]? = some q := by rw [hAB, ← hA]; simp
      have hqr := (hR.2.2.2.2.1.1 n q hq).1
      have hqn := (hI.2.1.1 q (List.mem_of_getElem? hq)).2.2.2.2.2.1
      have hs := plc_app (A := A) (q := q) (z := z) (fun i hi => by
        obtain ⟨h1, q', h2, h3, -⟩ := plc_some hi
        have hpw := hI.2.1.2.1
        rw [hAB, List.pairwise_append] at hpw
        have := (hpw.2.2 q' (List.mem_of_getElem? h2) q List.mem_cons_self).1
        omega)
      refine w_iload_n C dX7_placeOf_4 rfl ?_
      refine w_aload_n C dX7_placeOf_5 rfl ?_
      refine g_X7_112 C dX7_placeOf_6 (by first | assumption | exact Nat.zero_lt_one | exact Nat.zero_lt_two | exact Nat.one_lt_two) ?_
      refine w_icmp_ge C dX7_placeOf_9 (by omega) (by omega) (fun h9 => ?_) (fun h9 => ?_)
      · omega
      · refine w_aload_n C dX7_placeOf_12 rfl ?_
        refine g_X7_46 C dX7_placeOf_13 (by first | assumption | exact Nat.zero_lt_one | exact Nat.zero_lt_two | exact Nat.one_lt_two) ?_
        refine w_iload_n C dX7_placeOf_16 rfl ?_
        refine w_ialdN (j := n) C dX7_placeOf_17 (by first | assumption | exact Nat.zero_lt_one | exact Nat.zero_lt_two | exact Nat.one_lt_two) IA_53 (by omega) (by omega) ?_
        refine w_iload_n C dX7_placeOf_18 rfl ?_
        refine w_icmp_ne C dX7_placeOf_19 (by omega) (by omega) (fun h19 => ?_) (fun h19 => ?_)
        · refine w_iload_n C dX7_placeOf_26 rfl ?_
          refine w_istore_n C dX7_placeOf_27 (by decide) ?_
          refine w_iinc C dX7_placeOf_28 rfl (by decide) ?_
          refine w_goto C dX7_placeOf_31 ?_
          refine Wm.lsub (lv' := [(0, aO 40 0), (1, aI z), (2, aI (plc (A ++ [q]) z)), (3, aI ((n + 1 : Nat) : Int))]) ⟨rfl, rfl, by rw [hs]; first | (rw [if_pos (by omega), hA]; rfl) | (rw [if_neg (by omega)]; rfl), rfl, trivial⟩ (ih (n + 1) (A ++ [q]) B' (by rw [hAB]; simp) (by simp [hA]) (by simpa using hB))
        · refine w_iload_n C dX7_placeOf_22 rfl ?_
          refine w_goto C dX7_placeOf_23 ?_
          refine w_istore_n C dX7_placeOf_27 (by decide) ?_
          refine w_iinc C dX7_placeOf_28 rfl (by decide) ?_
          refine w_goto C dX7_placeOf_31 ?_
          refine Wm.lsub (lv' := [(0, aO 40 0), (1, aI z), (2, aI (plc (A ++ [q]) z)), (3, aI ((n + 1 : Nat) : Int))]) ⟨rfl, rfl, by rw [hs]; first | (rw [if_pos (by omega), hA]; rfl) | (rw [if_neg (by omega)]; rfl), rfl, trivial⟩ (ih (n + 1) (A ++ [q]) B' (by rw [hAB]; simp) (by simp [hA]) (by simpa using hB))
  refine w_iconst C dX7_placeOf_0 ?_
  refine w_istore_n C dX7_placeOf_1 (by decide) ?_
  refine w_iconst C dX7_placeOf_2 ?_
  refine w_istore_n C dX7_placeOf_3 (by decide) ?_
  exact Wm.lsub (lv' := [(0, aO 40 0), (1, aI z), (2, aI (plc [] z)), (3, aI ((0 : Nat) : Int))]) ⟨rfl, rfl, rfl, rfl, trivial⟩ (loop P.length 0 [] P rfl rfl rfl)
end Mo
