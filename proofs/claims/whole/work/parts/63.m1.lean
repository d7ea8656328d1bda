-- MODEL
/-! the model: cloth and shapes -/
/-- nothing stands beyond the shapes and the styles that there are -/
def InvZ (S : Sg) : Prop := (∀ j, nsS S ≤ j → ruS S j = 0 ∧ paS S j = 0 ∧ (∀ k, drS S j k = 0) ∧ szS S j = 0 ∧ gpS S j = 0 ∧ mrS S j = 0 ∧ mcS S j = 0 ∧ stS S j 0 = 0 ∧ stS S j 1 = 0 ∧ ∀ y, ctS S y j = 0) ∧ ∀ y, ntS S ≤ y → mdS S y = 0 ∧ ∀ j, ctS S y j = 0
def oAddShape (a : Int) (b : Nat) (S : Sg) (P : List Pc) (nx : Nat) : Res := if ¬ (a = 110 ∨ a = 104 ∨ a = 113) then (1, 0, S, P, nx) else if 8 ≤ nsS S then (2, 0, S, P, nx) else (0, (nsS S : Int), up3 (up3 (up3 S 7 (nsS S) 0 a.toNat) 8 (nsS S) 0 b) 6 0 0 (nsS S + 1), P, nx)
theorem RepMo.cl {S S' : Sg} {P : List Pc} {nx : Nat} {M M' : Mem} (h : RepMo S P nx M) (hag : ∀ f i q, ¬ (f = 4 ∨ f = 5) → S' f i q = S f i q) (h5 : M'.1 40 0 5 = nfS S') (h0 : ∀ s, 1 ≤ s → s < 33 → s ≠ 5 → M'.1 40 0 s = M.1 40 0 s) (hL : M'.2.2.1 = M.2.2.1) (h4 : ∀ k, 42 ≤ k → k ≤ 62 → ∀ j, M'.1 k 0 j = M.1 k 0 j) (hf : ∀ k, k < 720 → M'.1 41 0 k = flS S' k) : RepMo S' P nx M' := by
  have e : S' = fun f i q => if f = 4 ∨ f = 5 then S' f i q else S f i q := by
    funext f i q
    split
    · rfl
    · rename_i h9
      exact hag f i q h9
  obtain ⟨⟨m1, m2, m3, m4, m5, m6, m7, m8, m9, m10, m11⟩, n2, n3, n4, n5, n6, n7⟩ := h
  have hS : ∀ j, j < 8 → RepMS S j M' := fun j hj => by
    obtain ⟨a1, a2, a3, a4, a5, a6, a7, a8, a9⟩ := n3 j hj
    exact ⟨by rw [h4 47 (by decide) (by decide)]; exact a1, by rw [h4 42 (by decide) (by decide)]; exact a2, by rw [h4 48 (by decide) (by decide)]; exact a3, by rw [h4 49 (by decide) (by decide)]; exact a4, by rw [h4 50 (by decide) (by decide)]; exact a5, by rw [h4 51 (by decide) (by decide)]; exact a6, by rw [h4 44 (by decide) (by decide)]; exact a7, by rw [h4 52 (by decide) (by decide)]; exact a8, by rw [h4 52 (by decide) (by decide)]; exact a9⟩
  have hM : RepMM S P M' := n5.fr (fun k hk j => h4 k (by omega) (by omega) j)
  have hD : ∀ j k, j < 8 → k < 25 → M'.1 43 0 (25 * j + k) = drS S j k := fun j k hj hk => by rw [h4 43 (by decide) (by decide)]; exact n4 j k hj hk
  have hC : ∀ y j, y < 4 → j < 8 → M'.1 61 0 (8 * y + j) = ctS S y j := fun y j hy hj => by rw [h4 61 (by decide) (by decide)]; exact n6 y j hy hj
  have hY : ∀ y, y < 4 → M'.1 62 0 y = mdS S y := fun y hy => by rw [h4 62 (by decide) (by decide)]; exact n7 y hy
  refine ⟨⟨?_, ?_, ?_, ?_, h5, ?_, ?_, ?_, ?_, ?_, ?_⟩, hf, ?_, ?_, ?_, ?_, ?_⟩
  · rw [h0 1 (by decide) (by decide) (by decide), m1, e]; rfl
  · rw [h0 2 (by decide) (by decide) (by decide), m2, e]; rfl
  · rw [h0 3 (by decide) (by decide) (by decide), m3, e]; rfl
  · rw [h0 4 (by decide) (by decide) (by decide), m4, e]; rfl
  · rw [h0 7 (by decide) (by decide) (by decide), m6, e]; rfl
  · rw [h0 17 (by decide) (by decide) (by decide), m7]
  · rw [h0 18 (by decide) (by decide) (by decide), m8]
  · rw [h0 28 (by decide) (by decide) (by decide), m9, e]; rfl
  · rw [h0 31 (by decide) (by decide) (by decide), m10, e]; rfl
  · rw [hL, m11, e]; rfl
  · rw [e]; exact hS
  · rw [e]; exact hD
  · exact hM.cg (fun p _ => ⟨by rw [e]; rfl, by rw [e]; rfl, by rw [e]; rfl, by rw [e]; rfl⟩) (fun _ => by rw [e]; rfl)
  · rw [e]; exact hC
  · rw [e]; exact hY
section Mo
variable {l : Launch} {b0 : Nat → Prop} {ad : Ads} {M : Mem}
theorem c_X7_fold (hl : l.stackTraces = false) {S : Sg} {P : List Pc} {nx : Nat} (hI : Inv S P nx) (hR : RepMo S P nx M) (b : Nat) (hb : b ≤ 1) : Con l b0 yX7_fold cX7_fold 3 (some .boolean) 2 0 0 [aO 40 0, aI b] ad cntM M (okM (oFold b S P nx)) noX := by
  have e17 := hR.1.2.2.2.2.2.2.1
  have hP := hI.2.2.1
  have hfd := hI.1.2.2.1
  refine Con.of hl pl_X7 (Nat.le_of_ble_eq_true rfl) ?_
  intro D cA p e s m args below meth c C hr
  refine w_aload_n C dX7_fold_0 rfl ?_
  refine w_aload_n C dX7_fold_1 rfl ?_
  refine g_X7_112 C dX7_fold_2 (by first | assumption | exact Nat.zero_lt_one | exact Nat.zero_lt_two | exact Nat.one_lt_two) ?_
  refine w_if_le C dX7_fold_5 (by omega) (fun h5 => ?_) (fun h5 => ?_)
  · refine w_iconst C dX7_fold_12 ?_
    refine w_callV C dX7_fold_13 (c_X7_failsN hl 0 (by omega)) mX7_fails vX7_fails lk_X7_129 (by first | assumption | exact Nat.zero_lt_one | exact Nat.zero_lt_two | exact Nat.one_lt_two) rfl rfl rfl rfl ⟨by decide, by decide, by decide, by decide⟩ (Nat.le_of_ble_eq_true rfl) (fun _ _ h => h.elim) ⟨by decide, by decide⟩ (fun r_ MF q13 => ?_)
    obtain ⟨kF, kT, rfl⟩ := q13
    have hRF := hR.fr kF.fr
    refine w_if_eq_y C dX7_fold_16 (by omega) (by decide) ?_
    refine w_aload_n C dX7_fold_21 rfl ?_
    refine g_X7_118 C dX7_fold_22 (by first | assumption | exact Nat.zero_lt_one | exact Nat.zero_lt_two | exact Nat.one_lt_two) ?_
    refine w_istore_n C dX7_fold_25 (by decide) ?_
    refine w_aload_n C dX7_fold_26 rfl ?_
    refine w_iload_n C dX7_fold_27 rfl ?_
    refine p_X7_118 C dX7_fold_28 (by first | assumption | exact Nat.zero_lt_one | exact Nat.zero_lt_two | exact Nat.one_lt_two) (by omega) ?_
    refine w_iload_n C dX7_fold_31 rfl ?_
    obtain ⟨⟨m1, m2, m3, m4, m5, m6, m7, m8, m9, m10, m11⟩, n2, n3, n4, n5, n6, n7⟩ := hRF
    have hP0 : P = [] := List.eq_nil_of_length_eq_zero (by omega)
    subst hP0
    refine w_iret C hr dX7_fold_32 (by first | exact narrow_z (b2_01 _) | exact narrow_z (by omega)) (okM_of (S' := up3 S 2 0 0 b) (P' := []) (nx' := nx) (v := (fdS S : Int)) (by unfold oFold; rw [if_neg (by decide)]) (congrArg (fun z : Int => some (aI z)) m3) kT ⟨⟨m1, m2, rfl, m4, m5, m6, m7, m8, m9, m10, m11⟩, n2, n3, n4, RepMM.cg (S := S) (fun p hp => absurd hp List.not_mem_nil) (fun q => absurd rfl q) n5, n6, n7⟩) (by decide) (by decide)
  · refine w_iconst C dX7_fold_8 ?_
    refine w_goto C dX7_fold_9 ?_
    refine w_callV C dX7_fold_13 (c_X7_failsY hl 1 (by omega)) mX7_fails vX7_fails lk_X7_129 (by first | assumption | exact Nat.zero_lt_one | exact Nat.zero_lt_two | exact Nat.one_lt_two) rfl rfl rfl rfl ⟨by decide, by decide, by decide, by decide⟩ (Nat.le_of_ble_eq_true rfl) (fun _ _ h => h.elim) ⟨by decide, by decide⟩ (fun r_ MF q13 => ?_)
    obtain ⟨kF, kT, rfl⟩ := q13
    have hRF := hR.fr kF.fr
    refine w_if_eq_n C dX7_fold_16 (by omega) (by decide) ?_
    refine w_iconst C dX7_fold_19 ?_
    refine w_iret C hr dX7_fold_20 (by first | exact narrow_z (b2_01 _) | exact narrow_z (by omega)) (okM_no (i := 1) (by unfold oFold; rw [if_pos (by omega)]) (by decide) rfl kT hRF) (by decide) (by decide)
theorem c_X7_isUnderPiece (hl : l.stackTraces = false) {S : Sg} {P : List Pc} {nx : Nat} (hI : Inv S P nx) (hnx : nx < 1000000) (hR : RepMo S P nx M) (u v : Nat) (hu : u < 60) (hv : v < wdS S) : Con l b0 yX7_isUnderPiece cX7_isUnderPiece 4 (some .boolean) 1 0 0 [aO 40 0, aI u, aI v] ad cntM M (fun r M' => M' = M ∧ r = some (aI (b2 (underS S P u v)))) noX := by
  obtain ⟨r1, -, r3, -⟩ := hR.rg hI.1
  have e1 := hR.1.1
  have e3 := hR.1.2.2.1
  have f1 := hR.2.2.2.2.1.2.1 (12 * u + v) (by omega)
  have f2 := hR.2.2.2.2.1.2.1 (12 * u + (wdS S - 1 - v)) (by omega)
  have hnb : ∀ k, -1 ≤ clo S P k ∧ clo S P k ≤ 1000000000 := fun k => by
    have c1 := clo_ge S P k
    have c2 := clo_lt (S := S) (fun p hp => (hI.2.1.1 p hp).2.2.2.2.2.1) k
    omega
  have z1 := hnb (12 * u + v)
  have z2 := hnb (12 * u + (wdS S - 1 - v))
  refine Con.of hl pl_X7 (Nat.le_of_ble_eq_true rfl) ?_
  intro D cA p e s m args below meth c C hr
  refine w_aload_n C dX7_isUnderPiece_0 rfl ?_
  refine g_X7_64 C dX7_isUnderPiece_1 (by first | assumption | exact Nat.zero_lt_one | exact Nat.zero_lt_two | exact Nat.one_lt_two) ?_
  refine w_bipush (v := 12) C dX7_isUnderPiece_4 rfl ?_
  refine w_iload_n C dX7_isUnderPiece_6 rfl ?_
  refine w_imul C dX7_isUnderPiece_7 ?_
  refine w_iload_n C dX7_isUnderPiece_8 rfl ?_
  refine w_iadd C dX7_isUnderPiece_9 ?_
  refine w_ialdN (j := 12 * u + v) C dX7_isUnderPiece_10 (by first | assumption | exact Nat.zero_lt_one | exact Nat.zero_lt_two | exact Nat.one_lt_two) IA_58 (by omega) (by omega) ?_
  refine w_iconst C dX7_isUnderPiece_11 ?_
  refine w_icmp_eq C dX7_isUnderPiece_12 (by omega) (by omega) (fun h12 => ?_) (fun h12 => ?_)
  · refine w_iconst C dX7_isUnderPiece_19 ?_
    refine w_istore_n C dX7_isUnderPiece_20 (by decide) ?_
    refine w_iload_n C dX7_isUnderPiece_21 rfl ?_
    refine w_if_ne_n C dX7_isUnderPiece_22 (by omega) (by decide) ?_
    refine w_aload_n C dX7_isUnderPiece_25 rfl ?_
    refine g_X7_118 C dX7_isUnderPiece_26 (by first | assumption | exact Nat.zero_lt_one | exact Nat.zero_lt_two | exact Nat.one_lt_two) ?_
    refine w_if_eq C dX7_isUnderPiece_29 (by omega) (fun h29 => ?_) (fun h29 => ?_)
    · refine w_iconst C dX7_isUnderPiece_58 ?_
      refine w_iret C hr dX7_isUnderPiece_59 (by first | exact narrow_z (b2_01 _) | exact narrow_z (by omega)) (⟨rfl, by unfold underS; first | (rw [b2_f (by omega)]) | (rw [b2_t (by omega)])⟩) (by decide) (by decide)
    · refine w_aload_n C dX7_isUnderPiece_32 rfl ?_
      refine g_X7_64 C dX7_isUnderPiece_33 (by first | assumption | exact Nat.zero_lt_one | exact Nat.zero_lt_two | exact Nat.one_lt_two) ?_
      refine w_bipush (v := 12) C dX7_isUnderPiece_36 rfl ?_
      refine w_iload_n C dX7_isUnderPiece_38 rfl ?_
      refine w_imul C dX7_isUnderPiece_39 ?_
      refine w_aload_n C dX7_isUnderPiece_40 rfl ?_
      refine g_X7_7 C dX7_isUnderPiece_41 (by first | assumption | exact Nat.zero_lt_one | exact Nat.zero_lt_two | exact Nat.one_lt_two) ?_
      refine w_iadd C dX7_isUnderPiece_44 ?_
      refine w_iconst C dX7_isUnderPiece_45 ?_
      refine w_isub C dX7_isUnderPiece_46 ?_
      refine w_iload_n C dX7_isUnderPiece_47 rfl ?_
      refine w_isub C dX7_isUnderPiece_48 ?_
      refine w_ialdN (j := 12 * u + (wdS S - 1 - v)) C dX7_isUnderPiece_49 (by first | assumption | exact Nat.zero_lt_one | exact Nat.zero_lt_two | exact Nat.one_lt_two) IA_58 (by omega) (by omega) ?_
      refine w_iconst C dX7_isUnderPiece_50 ?_
      refine w_icmp_eq C dX7_isUnderPiece_51 (by omega) (by omega) (fun h51 => ?_) (fun h51 => ?_)
      · refine w_iconst C dX7_isUnderPiece_58 ?_
        refine w_iret C hr dX7_isUnderPiece_59 (by first | exact narrow_z (b2_01 _) | exact narrow_z (by omega)) (⟨rfl, by unfold underS; first | (rw [b2_f (by omega)]) | (rw [b2_t (by omega)])⟩) (by decide) (by decide)
      · refine w_iconst C dX7_isUnderPiece_54 ?_
        refine w_goto C dX7_isUnderPiece_55 ?_
        refine w_iret C hr dX7_isUnderPiece_59 (by first | exact narrow_z (b2_01 _) | exact narrow_z (by omega)) (⟨rfl, by unfold underS; first | (rw [b2_f (by omega)]) | (rw [b2_t (by omega)])⟩) (by decide) (by decide)
  · refine w_iconst C dX7_isUnderPiece_15 ?_
    refine w_goto C dX7_isUnderPiece_16 ?_
    refine w_istore_n C dX7_isUnderPiece_20 (by decide) ?_
    refine w_iload_n C dX7_isUnderPiece_21 rfl ?_
    refine w_if_ne_y C dX7_isUnderPiece_22 (by omega) (by decide) ?_
    refine w_iconst C dX7_isUnderPiece_54 ?_
    refine w_goto C dX7_isUnderPiece_55 ?_
    refine w_iret C hr dX7_isUnderPiece_59 (by first | exact narrow_z (b2_01 _) | exact narrow_z (by omega)) (⟨rfl, by unfold underS; first | (rw [b2_f (by omega)]) | (rw [b2_t (by omega)])⟩) (by decide) (by decide)
theorem c_X7_addFlaw (hl : l.stackTraces = false) {S : Sg} {P : List Pc} {nx : Nat} (hI : Inv S P nx) (hnx : nx < 1000000) (hR : RepMo S P nx M) (a b : Int) (ha : -2147483648 ≤ a ∧ a ≤ 2147483647) (hb : -2147483648 ≤ b ∧ b ≤ 2147483647) : Con l b0 yX7_addFlaw cX7_addFlaw 4 (some .int) 2 0 0 [aO 40 0, aI a, aI b] ad cntM M (okM (oAddFlaw a b S P nx)) noX := by
  obtain ⟨r1, -, r3, -, r5, -⟩ := hR.rg hI.1
  have e1 := hR.1.1
  have e5 := hR.1.2.2.2.2.1
  have hwd := hI.1.1
  have b1 := b2_01 (0 ≤ a ∧ a ≤ 59)
  have b3 := b2_01 (0 ≤ b ∧ b ≤ M.1 40 0 1 - 1)
  refine Con.of hl pl_X7 (Nat.le_of_ble_eq_true rfl) ?_
  intro D cA p e s m args below meth c C hr
  refine w_iload_n C dX7_addFlaw_0 rfl ?_
  refine w_iconst C dX7_addFlaw_1 ?_
  refine w_bipush (v := 59) C dX7_addFlaw_2 rfl ?_
  refine w_callS C dX7_addFlaw_4 (c_X7_in hl a 0 59 (by omega) (by omega) (by omega)) mX7_in sX7_in lk_X7_122 rfl rfl ⟨by decide, by decide, by decide, by decide⟩ (Nat.le_of_ble_eq_true rfl) (fun _ _ h => h.elim) ⟨by decide, by decide⟩ (fun r_ M_ q4 => ?_)
  obtain ⟨rfl, rfl⟩ := q4
  refine w_if_eq C dX7_addFlaw_7 (by omega) (fun h7 => ?_) (fun h7 => ?_)
  · have y1 : ¬ (0 ≤ a ∧ a ≤ 59) := fun q => by rw [b2_t q] at h7; omega
    refine w_iconst C dX7_addFlaw_28 ?_
    refine w_istore_n C dX7_addFlaw_29 (by decide) ?_
    refine w_aload_n C dX7_addFlaw_30 rfl ?_
    refine w_iload_n C dX7_addFlaw_31 rfl ?_
    refine w_if_ne_n C dX7_addFlaw_32 (by omega) (by decide) ?_
    refine w_iconst C dX7_addFlaw_35 ?_
    refine w_goto C dX7_addFlaw_36 ?_
    refine w_callV C dX7_addFlaw_80 (c_X7_failsY hl 1 (by omega)) mX7_fails vX7_fails lk_X7_129 (by first | assumption | exact Nat.zero_lt_one | exact Nat.zero_lt_two | exact Nat.one_lt_two) rfl rfl rfl rfl ⟨by decide, by decide, by decide, by decide⟩ (Nat.le_of_ble_eq_true rfl) (fun _ _ h => h.elim) ⟨by decide, by decide⟩ (fun r_ MF q80 => ?_)
    obtain ⟨kF, kT, rfl⟩ := q80
    have hRF := hR.fr kF.fr
    refine w_if_eq_n C dX7_addFlaw_83 (by omega) (by decide) ?_
    refine w_iconst C dX7_addFlaw_86 ?_
    refine w_iret C hr dX7_addFlaw_87 rfl (by first | exact okM_no (i := 1) (by unfold oAddFlaw; rw [if_pos (by omega)]) (by decide) rfl kT hRF | exact okM_no (i := 2) (by unfold oAddFlaw; rw [if_neg (by omega), Int.toNat_natCast, Int.toNat_natCast, if_pos y3]) (by decide) rfl kT hRF | exact okM_no (i := 3) (by unfold oAddFlaw; rw [if_neg (by omega), Int.toNat_natCast, Int.toNat_natCast, if_neg y3, if_neg (by omega), if_pos (by omega)]) (by decide) rfl kT hRF) (by decide) (by decide)
  · have y1 : 0 ≤ a ∧ a ≤ 59 := Decidable.byContradiction fun q => h7 (b2_f q)
    refine w_iload_n C dX7_addFlaw_10 rfl ?_
    refine w_iconst C dX7_addFlaw_11 ?_
    refine w_aload_n C dX7_addFlaw_12 rfl ?_
    refine g_X7_7 C dX7_addFlaw_13 (by first | assumption | exact Nat.zero_lt_one | exact Nat.zero_lt_two | exact Nat.one_lt_two) ?_
    refine w_iconst C dX7_addFlaw_16 ?_
    refine w_isub C dX7_addFlaw_17 ?_
    refine w_callS C dX7_addFlaw_18 (c_X7_in hl b 0 (M_.1 40 0 1 - 1) (by omega) (by omega) (by omega)) mX7_in sX7_in lk_X7_122 rfl rfl ⟨by decide, by decide, by decide, by decide⟩ (Nat.le_of_ble_eq_true rfl) (fun _ _ h => h.elim) ⟨by decide, by decide⟩ (fun r_ M_ q18 => ?_)
    obtain ⟨rfl, rfl⟩ := q18
    refine w_if_eq C dX7_addFlaw_21 (by omega) (fun h21 => ?_) (fun h21 => ?_)
    · have y2 : ¬ (0 ≤ b ∧ b ≤ M_.1 40 0 1 - 1) := fun q => by rw [b2_t q] at h21; omega
      refine w_iconst C dX7_addFlaw_28 ?_
      refine w_istore_n C dX7_addFlaw_29 (by decide) ?_
      refine w_aload_n C dX7_addFlaw_30 rfl ?_
      refine w_iload_n C dX7_addFlaw_31 rfl ?_
      refine w_if_ne_n C dX7_addFlaw_32 (by omega) (by decide) ?_
      refine w_iconst C dX7_addFlaw_35 ?_
      refine w_goto C dX7_addFlaw_36 ?_
      refine w_callV C dX7_addFlaw_80 (c_X7_failsY hl 1 (by omega)) mX7_fails vX7_fails lk_X7_129 (by first | assumption | exact Nat.zero_lt_one | exact Nat.zero_lt_two | exact Nat.one_lt_two) rfl rfl rfl rfl ⟨by decide, by decide, by decide, by decide⟩ (Nat.le_of_ble_eq_true rfl) (fun _ _ h => h.elim) ⟨by decide, by decide⟩ (fun r_ MF q80 => ?_)
      obtain ⟨kF, kT, rfl⟩ := q80
      have hRF := hR.fr kF.fr
      refine w_if_eq_n C dX7_addFlaw_83 (by omega) (by decide) ?_
      refine w_iconst C dX7_addFlaw_86 ?_
      refine w_iret C hr dX7_addFlaw_87 rfl (by first | exact okM_no (i := 1) (by unfold oAddFlaw; rw [if_pos (by omega)]) (by decide) rfl kT hRF | exact okM_no (i := 2) (by unfold oAddFlaw; rw [if_neg (by omega), Int.toNat_natCast, Int.toNat_natCast, if_pos y3]) (by decide) rfl kT hRF | exact okM_no (i := 3) (by unfold oAddFlaw; rw [if_neg (by omega), Int.toNat_natCast, Int.toNat_natCast, if_neg y3, if_neg (by omega), if_pos (by omega)]) (by decide) rfl kT hRF) (by decide) (by decide)
    · have y2 : 0 ≤ b ∧ b ≤ M_.1 40 0 1 - 1 := Decidable.byContradiction fun q => h21 (b2_f q)
      refine w_iconst C dX7_addFlaw_24 ?_
      refine w_goto C dX7_addFlaw_25 ?_
      refine w_istore_n C dX7_addFlaw_29 (by decide) ?_
      refine w_aload_n C dX7_addFlaw_30 rfl ?_
      refine w_iload_n C dX7_addFlaw_31 rfl ?_
      refine w_if_ne_y C dX7_addFlaw_32 (by omega) (by decide) ?_
      obtain ⟨u, rfl⟩ := Int.eq_ofNat_of_zero_le y1.1
      obtain ⟨v, rfl⟩ := Int.eq_ofNat_of_zero_le y2.1
      have f1 := hR.2.1 (12 * u + v) (by omega)
      have z1 := hI.1.2.2.2.2.2.2.2.2.1 (12 * u + v) (by omega)
      have b4 := b2_01 (underS S P u v)
      refine w_aload_n C dX7_addFlaw_39 rfl ?_
      refine w_iload_n C dX7_addFlaw_40 rfl ?_
      refine w_iload_n C dX7_addFlaw_41 rfl ?_
      refine w_callV C dX7_addFlaw_42 (c_X7_isUnderPiece hl hI hnx hR u v (by omega) (by omega)) mX7_isUnderPiece vX7_isUnderPiece lk_X7_139 (by first | assumption | exact Nat.zero_lt_one | exact Nat.zero_lt_two | exact Nat.one_lt_two) rfl rfl rfl rfl ⟨by decide, by decide, by decide, by decide⟩ (Nat.le_of_ble_eq_true rfl) (fun _ _ h => h.elim) ⟨by decide, by decide⟩ (fun r_ M_ q42 => ?_)
      obtain ⟨rfl, rfl⟩ := q42
      refine w_if_eq C dX7_addFlaw_45 (by omega) (fun h45 => ?_) (fun h45 => ?_)
      · have y3 : ¬ underS S P u v := fun q => by rw [b2_t q] at h45; omega
        refine w_aload_n C dX7_addFlaw_52 rfl ?_
        refine g_X7_126 C dX7_addFlaw_53 (by first | assumption | exact Nat.zero_lt_one | exact Nat.zero_lt_two | exact Nat.one_lt_two) ?_
        refine w_bipush (v := 12) C dX7_addFlaw_56 rfl ?_
        refine w_icmp_ne C dX7_addFlaw_58 (by omega) (by omega) (fun h58 => ?_) (fun h58 => ?_)
        · refine w_iconst C dX7_addFlaw_79 ?_
          refine w_callV C dX7_addFlaw_80 (c_X7_failsN hl 0 (by omega)) mX7_fails vX7_fails lk_X7_129 (by first | assumption | exact Nat.zero_lt_one | exact Nat.zero_lt_two | exact Nat.one_lt_two) rfl rfl rfl rfl ⟨by decide, by decide, by decide, by decide⟩ (Nat.le_of_ble_eq_true rfl) (fun _ _ h => h.elim) ⟨by decide, by decide⟩ (fun r_ MF q80 => ?_)
          obtain ⟨kF, kT, rfl⟩ := q80
          have hRF := hR.fr kF.fr
          refine w_if_eq_y C dX7_addFlaw_83 (by omega) (by decide) ?_
          have g1 := hRF.2.1 (12 * u + v) (by omega)
          have g5 := hRF.1.2.2.2.2.1
          refine w_aload_n C dX7_addFlaw_88 rfl ?_
          refine w_dup C dX7_addFlaw_89 rfl ?_
          refine g_X7_126 C dX7_addFlaw_90 (by first | assumption | exact Nat.zero_lt_one | exact Nat.zero_lt_two | exact Nat.one_lt_two) ?_
          refine w_aload_n C dX7_addFlaw_93 rfl ?_
          refine g_X7_13 C dX7_addFlaw_94 (by first | assumption | exact Nat.zero_lt_one | exact Nat.zero_lt_two | exact Nat.one_lt_two) ?_
          refine w_bipush (v := 12) C dX7_addFlaw_97 rfl ?_
          refine w_iload_n C dX7_addFlaw_99 rfl ?_
          refine w_imul C dX7_addFlaw_100 ?_
          refine w_iload_n C dX7_addFlaw_101 rfl ?_
          refine w_iadd C dX7_addFlaw_102 ?_
          refine w_zaldN (j := 12 * u + v) C dX7_addFlaw_103 (by first | assumption | exact Nat.zero_lt_one | exact Nat.zero_lt_two | exact Nat.one_lt_two) ZA_41 (by omega) (by omega) ?_
          refine w_if_eq C dX7_addFlaw_104 (by omega) (fun h104 => ?_) (fun h104 => ?_)
          · refine w_iconst C dX7_addFlaw_111 ?_
            refine w_iadd C dX7_addFlaw_112 ?_
            refine p_X7_126 C dX7_addFlaw_113 (by first | assumption | exact Nat.zero_lt_one | exact Nat.zero_lt_two | exact Nat.one_lt_two) ?_
            refine w_aload_n C dX7_addFlaw_116 rfl ?_
            refine g_X7_13 C dX7_addFlaw_117 (by first | assumption | exact Nat.zero_lt_one | exact Nat.zero_lt_two | exact Nat.one_lt_two) ?_
            refine w_bipush (v := 12) C dX7_addFlaw_120 rfl ?_
            refine w_iload_n C dX7_addFlaw_122 rfl ?_
            refine w_imul C dX7_addFlaw_123 ?_
            refine w_iload_n C dX7_addFlaw_124 rfl ?_
            refine w_iadd C dX7_addFlaw_125 ?_
            skip
            refine w_iconst C dX7_addFlaw_126 ?_
            refine w_zastN (j := 12 * u + v) C dX7_addFlaw_127 (by first | assumption | exact Nat.zero_lt_one | exact Nat.zero_lt_two | exact Nat.one_lt_two) ZA_41 (by omega) (by omega) (by omega) ?_
            refine w_aload_n C dX7_addFlaw_128 rfl ?_
            refine g_X7_126 C dX7_addFlaw_129 (by first | assumption | exact Nat.zero_lt_one | exact Nat.zero_lt_two | exact Nat.one_lt_two) ?_
            refine w_iret C hr dX7_addFlaw_132 rfl (by first | (exfalso; omega) | (refine okM_of (v := (nfS S : Int)) (S' := S) (P' := P) (nx' := nx) (by unfold oAddFlaw; rw [if_neg (by omega), Int.toNat_natCast, Int.toNat_natCast, if_neg y3, if_pos (by omega)]) (congrArg (fun z : Int => some (aI z)) (show MF.1 40 0 5 + 0 = _ by omega)) kT (hRF.cl (fun _ _ _ _ => rfl) (show MF.1 40 0 5 + 0 = _ by omega) (fun s h1 h2 h3 => ?_) rfl (fun k h1 h2 j => ?_) (fun k hk => ?_)); rw [uI_get, if_neg (by omega), uI_get, if_neg (by omega)]; rw [uI_get, if_neg (by omega), uI_get, if_neg (by omega)]; rw [uI_get]; split; (rename_i hh; rw [hh.2.2]; omega); (rw [uI_get, if_neg (by omega)]; exact hRF.2.1 k hk)) | (refine okM_of (v := (nfS S : Int) + 1) (S' := up3 (up3 S 5 0 (12 * u + v) 1) 4 0 0 (nfS S + 1)) (P' := P) (nx' := nx) (by unfold oAddFlaw; rw [if_neg (by omega), Int.toNat_natCast, Int.toNat_natCast, if_neg y3, if_neg (by omega), if_neg (by omega)]) (congrArg (fun z : Int => some (aI z)) (show MF.1 40 0 5 + 1 = _ by omega)) kT (hRF.cl (fun f i q h => by simp only [up3]; rw [if_neg (by omega), if_neg (by omega)]) (show MF.1 40 0 5 + 1 = ((nfS S + 1 : Nat) : Int) by omega) (fun s h1 h2 h3 => ?_) rfl (fun k h1 h2 j => ?_) (fun k hk => ?_)); rw [uI_get, if_neg (by omega), uI_get, if_neg (by omega)]; rw [uI_get, if_neg (by omega), uI_get, if_neg (by omega)]; (have e9 : flS (up3 (up3 S 5 0 (12 * u + v) 1) 4 0 0 (nfS S + 1)) k = if k = 12 * u + v then 1 else flS S k := (show (if 5 = 5 ∧ 0 = 0 ∧ k = 12 * u + v then 1 else S 5 0 k) = _ by simp)); rw [e9, uI_get]; split; (rename_i hh; rw [if_pos hh.2.2]; rfl); (rename_i hh; rw [if_neg (fun q => hh ⟨rfl, rfl, q⟩), uI_get, if_neg (by omega)]; exact hRF.2.1 k hk))) (by decide) (by decide)
          · refine w_iconst C dX7_addFlaw_107 ?_
            refine w_goto C dX7_addFlaw_108 ?_
            refine w_iadd C dX7_addFlaw_112 ?_
            refine p_X7_126 C dX7_addFlaw_113 (by first | assumption | exact Nat.zero_lt_one | exact Nat.zero_lt_two | exact Nat.one_lt_two) ?_
            refine w_aload_n C dX7_addFlaw_116 rfl ?_
            refine g_X7_13 C dX7_addFlaw_117 (by first | assumption | exact Nat.zero_lt_one | exact Nat.zero_lt_two | exact Nat.one_lt_two) ?_
            refine w_bipush (v := 12) C dX7_addFlaw_120 rfl ?_
            refine w_iload_n C dX7_addFlaw_122 rfl ?_
            refine w_imul C dX7_addFlaw_123 ?_
            refine w_iload_n C dX7_addFlaw_124 rfl ?_
            refine w_iadd C dX7_addFlaw_125 ?_
            skip
            refine w_iconst C dX7_addFlaw_126 ?_
            refine w_zastN (j := 12 * u + v) C dX7_addFlaw_127 (by first | assumption | exact Nat.zero_lt_one | exact Nat.zero_lt_two | exact Nat.one_lt_two) ZA_41 (by omega) (by omega) (by omega) ?_
            refine w_aload_n C dX7_addFlaw_128 rfl ?_
            refine g_X7_126 C dX7_addFlaw_129 (by first | assumption | exact Nat.zero_lt_one | exact Nat.zero_lt_two | exact Nat.one_lt_two) ?_
            refine w_iret C hr dX7_addFlaw_132 rfl (by first | (exfalso; omega) | (refine okM_of (v := (nfS S : Int)) (S' := S) (P' := P) (nx' := nx) (by unfold oAddFlaw; rw [if_neg (by omega), Int.toNat_natCast, Int.toNat_natCast, if_neg y3, if_pos (by omega)]) (congrArg (fun z : Int => some (aI z)) (show MF.1 40 0 5 + 0 = _ by omega)) kT (hRF.cl (fun _ _ _ _ => rfl) (show MF.1 40 0 5 + 0 = _ by omega) (fun s h1 h2 h3 => ?_) rfl (fun k h1 h2 j => ?_) (fun k hk => ?_)); rw [uI_get, if_neg (by omega), uI_get, if_neg (by omega)]; rw [uI_get, if_neg (by omega), uI_get, if_neg (by omega)]; rw [uI_get]; split; (rename_i hh; rw [hh.2.2]; omega); (rw [uI_get, if_neg (by omega)]; exact hRF.2.1 k hk)) | (refine okM_of (v := (nfS S : Int) + 1) (S' := up3 (up3 S 5 0 (12 * u + v) 1) 4 0 0 (nfS S + 1)) (P' := P) (nx' := nx) (by unfold oAddFlaw; rw [if_neg (by omega), Int.toNat_natCast, Int.toNat_natCast, if_neg y3, if_neg (by omega), if_neg (by omega)]) (congrArg (fun z : Int => some (aI z)) (show MF.1 40 0 5 + 1 = _ by omega)) kT (hRF.cl (fun f i q h => by simp only [up3]; rw [if_neg (by omega), if_neg (by omega)]) (show MF.1 40 0 5 + 1 = ((nfS S + 1 : Nat) : Int) by omega) (fun s h1 h2 h3 => ?_) rfl (fun k h1 h2 j => ?_) (fun k hk => ?_)); rw [uI_get, if_neg (by omega), uI_get, if_neg (by omega)]; rw [uI_get, if_neg (by omega), uI_get, if_neg (by omega)]; (have e9 : flS (up3 (up3 S 5 0 (12 * u + v) 1) 4 0 0 (nfS S + 1)) k = if k = 12 * u + v then 1 else flS S k := (show (if 5 = 5 ∧ 0 = 0 ∧ k = 12 * u + v then 1 else S 5 0 k) = _ by simp)); rw [e9, uI_get]; split; (rename_i hh; rw [if_pos hh.2.2]; rfl); (rename_i hh; rw [if_neg (fun q => hh ⟨rfl, rfl, q⟩), uI_get, if_neg (by omega)]; exact hRF.2.1 k hk))) (by decide) (by decide)
        · refine w_aload_n C dX7_addFlaw_61 rfl ?_
          refine g_X7_13 C dX7_addFlaw_62 (by first | assumption | exact Nat.zero_lt_one | exact Nat.zero_lt_two | exact Nat.one_lt_two) ?_
          refine w_bipush (v := 12) C dX7_addFlaw_65 rfl ?_
          refine w_iload_n C dX7_addFlaw_67 rfl ?_
          refine w_imul C dX7_addFlaw_68 ?_
          refine w_iload_n C dX7_addFlaw_69 rfl ?_
          refine w_iadd C dX7_addFlaw_70 ?_
          refine w_zaldN (j := 12 * u + v) C dX7_addFlaw_71 (by first | assumption | exact Nat.zero_lt_one | exact Nat.zero_lt_two | exact Nat.one_lt_two) ZA_41 (by omega) (by omega) ?_
          refine w_if_ne C dX7_addFlaw_72 (by omega) (fun h72 => ?_) (fun h72 => ?_)
          · refine w_iconst C dX7_addFlaw_79 ?_
            refine w_callV C dX7_addFlaw_80 (c_X7_failsN hl 0 (by omega)) mX7_fails vX7_fails lk_X7_129 (by first | assumption | exact Nat.zero_lt_one | exact Nat.zero_lt_two | exact Nat.one_lt_two) rfl rfl rfl rfl ⟨by decide, by decide, by decide, by decide⟩ (Nat.le_of_ble_eq_true rfl) (fun _ _ h => h.elim) ⟨by decide, by decide⟩ (fun r_ MF q80 => ?_)
            obtain ⟨kF, kT, rfl⟩ := q80
            have hRF := hR.fr kF.fr
            refine w_if_eq_y C dX7_addFlaw_83 (by omega) (by decide) ?_
            have g1 := hRF.2.1 (12 * u + v) (by omega)
            have g5 := hRF.1.2.2.2.2.1
            refine w_aload_n C dX7_addFlaw_88 rfl ?_
            refine w_dup C dX7_addFlaw_89 rfl ?_
            refine g_X7_126 C dX7_addFlaw_90 (by first | assumption | exact Nat.zero_lt_one | exact Nat.zero_lt_two | exact Nat.one_lt_two) ?_
            refine w_aload_n C dX7_addFlaw_93 rfl ?_
            refine g_X7_13 C dX7_addFlaw_94 (by first | assumption | exact Nat.zero_lt_one | exact Nat.zero_lt_two | exact Nat.one_lt_two) ?_
            refine w_bipush (v := 12) C dX7_addFlaw_97 rfl ?_
            refine w_iload_n C dX7_addFlaw_99 rfl ?_
            refine w_imul C dX7_addFlaw_100 ?_
            refine w_iload_n C dX7_addFlaw_101 rfl ?_
            refine w_iadd C dX7_addFlaw_102 ?_
            refine w_zaldN (j := 12 * u + v) C dX7_addFlaw_103 (by first | assumption | exact Nat.zero_lt_one | exact Nat.zero_lt_two | exact Nat.one_lt_two) ZA_41 (by omega) (by omega) ?_
            refine w_if_eq C dX7_addFlaw_104 (by omega) (fun h104 => ?_) (fun h104 => ?_)
            · refine w_iconst C dX7_addFlaw_111 ?_
              refine w_iadd C dX7_addFlaw_112 ?_
              refine p_X7_126 C dX7_addFlaw_113 (by first | assumption | exact Nat.zero_lt_one | exact Nat.zero_lt_two | exact Nat.one_lt_two) ?_
              refine w_aload_n C dX7_addFlaw_116 rfl ?_
              refine g_X7_13 C dX7_addFlaw_117 (by first | assumption | exact Nat.zero_lt_one | exact Nat.zero_lt_two | exact Nat.one_lt_two) ?_
              refine w_bipush (v := 12) C dX7_addFlaw_120 rfl ?_
              refine w_iload_n C dX7_addFlaw_122 rfl ?_
              refine w_imul C dX7_addFlaw_123 ?_
              refine w_iload_n C dX7_addFlaw_124 rfl ?_
              refine w_iadd C dX7_addFlaw_125 ?_
              skip
              refine w_iconst C dX7_addFlaw_126 ?_
              refine w_zastN (j := 12 * u + v) C dX7_addFlaw_127 (by first | assumption | exact Nat.zero_lt_one | exact Nat.zero_lt_two | exact Nat.one_lt_two) ZA_41 (by omega) (by omega) (by omega) ?_
              refine w_aload_n C dX7_addFlaw_128 rfl ?_
              refine g_X7_126 C dX7_addFlaw_129 (by first | assumption | exact Nat.zero_lt_one | exact Nat.zero_lt_two | exact Nat.one_lt_two) ?_
              refine w_iret C hr dX7_addFlaw_132 rfl (by first | (exfalso; omega) | (refine okM_of (v := (nfS S : Int)) (S' := S) (P' := P) (nx' := nx) (by unfold oAddFlaw; rw [if_neg (by omega), Int.toNat_natCast, Int.toNat_natCast, if_neg y3, if_pos (by omega)]) (congrArg (fun z : Int => some (aI z)) (show MF.1 40 0 5 + 0 = _ by omega)) kT (hRF.cl (fun _ _ _ _ => rfl) (show MF.1 40 0 5 + 0 = _ by omega) (fun s h1 h2 h3 => ?_) rfl (fun k h1 h2 j => ?_) (fun k hk => ?_)); rw [uI_get, if_neg (by omega), uI_get, if_neg (by omega)]; rw [uI_get, if_neg (by omega), uI_get, if_neg (by omega)]; rw [uI_get]; split; (rename_i hh; rw [hh.2.2]; omega); (rw [uI_get, if_neg (by omega)]; exact hRF.2.1 k hk)) | (refine okM_of (v := (nfS S : Int) + 1) (S' := up3 (up3 S 5 0 (12 * u + v) 1) 4 0 0 (nfS S + 1)) (P' := P) (nx' := nx) (by unfold oAddFlaw; rw [if_neg (by omega), Int.toNat_natCast, Int.toNat_natCast, if_neg y3, if_neg (by omega), if_neg (by omega)]) (congrArg (fun z : Int => some (aI z)) (show MF.1 40 0 5 + 1 = _ by omega)) kT (hRF.cl (fun f i q h => by simp only [up3]; rw [if_neg (by omega), if_neg (by omega)]) (show MF.1 40 0 5 + 1 = ((nfS S + 1 : Nat) : Int) by omega) (fun s h1 h2 h3 => ?_) rfl (fun k h1 h2 j => ?_) (fun k hk => ?_)); rw [uI_get, if_neg (by omega), uI_get, if_neg (by omega)]; rw [uI_get, if_neg (by omega), uI_get, if_neg (by omega)]; (have e9 : flS (up3 (up3 S 5 0 (12 * u + v) 1) 4 0 0 (nfS S + 1)) k = if k = 12 * u + v then 1 else flS S k := (show (if 5 = 5 ∧ 0 = 0 ∧ k = 12 * u + v then 1 else S 5 0 k) = _ by simp)); rw [e9, uI_get]; split; (rename_i hh; rw [if_pos hh.2.2]; rfl); (rename_i hh; rw [if_neg (fun q => hh ⟨rfl, rfl, q⟩), uI_get, if_neg (by omega)]; exact hRF.2.1 k hk))) (by decide) (by decide)
            · refine w_iconst C dX7_addFlaw_107 ?_
              refine w_goto C dX7_addFlaw_108 ?_
              refine w_iadd C dX7_addFlaw_112 ?_
              refine p_X7_126 C dX7_addFlaw_113 (by first | assumption | exact Nat.zero_lt_one | exact Nat.zero_lt_two | exact Nat.one_lt_two) ?_
              refine w_aload_n C dX7_addFlaw_116 rfl ?_
              refine g_X7_13 C dX7_addFlaw_117 (by first | assumption | exact Nat.zero_lt_one | exact Nat.zero_lt_two | exact Nat.one_lt_two) ?_
              refine w_bipush (v := 12) C dX7_addFlaw_120 rfl ?_
              refine w_iload_n C dX7_addFlaw_122 rfl ?_
              refine w_imul C dX7_addFlaw_123 ?_
              refine w_iload_n C dX7_addFlaw_124 rfl ?_
              refine w_iadd C dX7_addFlaw_125 ?_
              skip
              refine w_iconst C dX7_addFlaw_126 ?_
              refine w_zastN (j := 12 * u + v) C dX7_addFlaw_127 (by first | assumption | exact Nat.zero_lt_one | exact Nat.zero_lt_two | exact Nat.one_lt_two) ZA_41 (by omega) (by omega) (by omega) ?_
              refine w_aload_n C dX7_addFlaw_128 rfl ?_
              refine g_X7_126 C dX7_addFlaw_129 (by first | assumption | exact Nat.zero_lt_one | exact Nat.zero_lt_two | exact Nat.one_lt_two) ?_
              refine w_iret C hr dX7_addFlaw_132 rfl (by first | (exfalso; omega) | (refine okM_of (v := (nfS S : Int)) (S' := S) (P' := P) (nx' := nx) (by unfold oAddFlaw; rw [if_neg (by omega), Int.toNat_natCast, Int.toNat_natCast, if_neg y3, if_pos (by omega)]) (congrArg (fun z : Int => some (aI z)) (show MF.1 40 0 5 + 0 = _ by omega)) kT (hRF.cl (fun _ _ _ _ => rfl) (show MF.1 40 0 5 + 0 = _ by omega) (fun s h1 h2 h3 => ?_) rfl (fun k h1 h2 j => ?_) (fun k hk => ?_)); rw [uI_get, if_neg (by omega), uI_get, if_neg (by omega)]; rw [uI_get, if_neg (by omega), uI_get, if_neg (by omega)]; rw [uI_get]; split; (rename_i hh; rw [hh.2.2]; omega); (rw [uI_get, if_neg (by omega)]; exact hRF.2.1 k hk)) | (refine okM_of (v := (nfS S : Int) + 1) (S' := up3 (up3 S 5 0 (12 * u + v) 1) 4 0 0 (nfS S + 1)) (P' := P) (nx' := nx) (by unfold oAddFlaw; rw [if_neg (by omega), Int.toNat_natCast, Int.toNat_natCast, if_neg y3, if_neg (by omega), if_neg (by omega)]) (congrArg (fun z : Int => some (aI z)) (show MF.1 40 0 5 + 1 = _ by omega)) kT (hRF.cl (fun f i q h => by simp only [up3]; rw [if_neg (by omega), if_neg (by omega)]) (show MF.1 40 0 5 + 1 = ((nfS S + 1 : Nat) : Int) by omega) (fun s h1 h2 h3 => ?_) rfl (fun k h1 h2 j => ?_) (fun k hk => ?_)); rw [uI_get, if_neg (by omega), uI_get, if_neg (by omega)]; rw [uI_get, if_neg (by omega), uI_get, if_neg (by omega)]; (have e9 : flS (up3 (up3 S 5 0 (12 * u + v) 1) 4 0 0 (nfS S + 1)) k = if k = 12 * u + v then 1 else flS S k := (show (if 5 = 5 ∧ 0 = 0 ∧ k = 12 * u + v then 1 else S 5 0 k) = _ by simp)); rw [e9, uI_get]; split; (rename_i hh; rw [if_pos hh.2.2]; rfl); (rename_i hh; rw [if_neg (fun q => hh ⟨rfl, rfl, q⟩), uI_get, if_neg (by omega)]; exact hRF.2.1 k hk))) (by decide) (by decide)
          · refine w_iconst C dX7_addFlaw_75 ?_
            refine w_goto C dX7_addFlaw_76 ?_
            refine w_callV C dX7_addFlaw_80 (c_X7_failsY hl 3 (by omega)) mX7_fails vX7_fails lk_X7_129 (by first | assumption | exact Nat.zero_lt_one | exact Nat.zero_lt_two | exact Nat.one_lt_two) rfl rfl rfl rfl ⟨by decide, by decide, by decide, by decide⟩ (Nat.le_of_ble_eq_true rfl) (fun _ _ h => h.elim) ⟨by decide, by decide⟩ (fun r_ MF q80 => ?_)
            obtain ⟨kF, kT, rfl⟩ := q80
            have hRF := hR.fr kF.fr
            refine w_if_eq_n C dX7_addFlaw_83 (by omega) (by decide) ?_
            refine w_iconst C dX7_addFlaw_86 ?_
            refine w_iret C hr dX7_addFlaw_87 rfl (by first | exact okM_no (i := 1) (by unfold oAddFlaw; rw [if_pos (by omega)]) (by decide) rfl kT hRF | exact okM_no (i := 2) (by unfold oAddFlaw; rw [if_neg (by omega), Int.toNat_natCast, Int.toNat_natCast, if_pos y3]) (by decide) rfl kT hRF | exact okM_no (i := 3) (by unfold oAddFlaw; rw [if_neg (by omega), Int.toNat_natCast, Int.toNat_natCast, if_neg y3, if_neg (by omega), if_pos (by omega)]) (by decide) rfl kT hRF) (by decide) (by decide)
      · have y3 : underS S P u v := Decidable.byContradiction fun q => h45 (b2_f q)
        refine w_iconst C dX7_addFlaw_48 ?_
        refine w_goto C dX7_addFlaw_49 ?_
        refine w_callV C dX7_addFlaw_80 (c_X7_failsY hl 2 (by omega)) mX7_fails vX7_fails lk_X7_129 (by first | assumption | exact Nat.zero_lt_one | exact Nat.zero_lt_two | exact Nat.one_lt_two) rfl rfl rfl rfl ⟨by decide, by decide, by decide, by decide⟩ (Nat.le_of_ble_eq_true rfl) (fun _ _ h => h.elim) ⟨by decide, by decide⟩ (fun r_ MF q80 => ?_)
        obtain ⟨kF, kT, rfl⟩ := q80
        have hRF := hR.fr kF.fr
        refine w_if_eq_n C dX7_addFlaw_83 (by omega) (by decide) ?_
        refine w_iconst C dX7_addFlaw_86 ?_
        refine w_iret C hr dX7_addFlaw_87 rfl (by first | exact okM_no (i := 1) (by unfold oAddFlaw; rw [if_pos (by omega)]) (by decide) rfl kT hRF | exact okM_no (i := 2) (by unfold oAddFlaw; rw [if_neg (by omega), Int.toNat_natCast, Int.toNat_natCast, if_pos y3]) (by decide) rfl kT hRF | exact okM_no (i := 3) (by unfold oAddFlaw; rw [if_neg (by omega), Int.toNat_natCast, Int.toNat_natCast, if_neg y3, if_neg (by omega), if_pos (by omega)]) (by decide) rfl kT hRF) (by decide) (by decide)
theorem c_X7_clearFlaws (hl : l.stackTraces = false) {S : Sg} {P : List Pc} {nx : Nat} (hI : Inv S P nx) (hR : RepMo S P nx M) : Con l b0 yX7_clearFlaws cX7_clearFlaws 3 (some .int) 1 0 0 [aO 40 0] ad cntM M (okM (oClearFlaws S P nx)) noX := by
  have i41 : inD cntM 41 0 := Nat.zero_lt_one
  have e5 := hR.1.2.2.2.2.1
  refine Con.of hl pl_X7 (Nat.le_of_ble_eq_true rfl) ?_
  intro D cA p e s m args below meth c C hr
  have loop : ∀ (d q : Nat) (M1 : Mem), q + d = 720 → (M1.1 40 0 0 = 0 ∧ (∀ s, 1 ≤ s → s < 33 → M1.1 40 0 s = M.1 40 0 s) ∧ M1.2.2.1 = M.2.2.1 ∧ (∀ k, 42 ≤ k → k ≤ 62 → ∀ j, M1.1 k 0 j = M.1 k 0 j)) → (∀ j, j < q → M1.1 41 0 j = 0) → Wm p l e (rmd 1 0 0) s m args below meth c 3 D cA b0 0 0 (vx_MQ below (mQ D cA b0 ad cntM (okM (oClearFlaws S P nx))) (mX D cA b0 ad cntM noX) args s 0 0 b0) 12 [(0, aO 40 0), (1, aI (M.1 40 0 5)), (2, aI q)] [] ad cntM M1 := by
    intro d
    induction d with
    | zero =>
      intro q M1 hq hF hj
      refine w_iload_n C dX7_clearFlaws_12 rfl ?_
      refine w_sipush (v := 720) C dX7_clearFlaws_13 rfl ?_
      refine w_icmp_ge C dX7_clearFlaws_16 (by omega) (by omega) (fun h16 => ?_) (fun h16 => ?_)
      · refine w_aload_n C dX7_clearFlaws_32 rfl ?_
        refine w_iconst C dX7_clearFlaws_33 ?_
        refine p_X7_126 C dX7_clearFlaws_34 (by first | assumption | exact Nat.zero_lt_one | exact Nat.zero_lt_two | exact Nat.one_lt_two) ?_
        refine w_iload_n C dX7_clearFlaws_37 rfl ?_
        refine w_iret C hr dX7_clearFlaws_38 rfl (okM_of (v := (nfS S : Int)) (S' := noFl S) (P' := P) (nx' := nx) rfl (congrArg (fun z : Int => some (aI z)) e5) hF.1 (hR.cl (fun f i q h => by unfold noFl; rw [if_neg (by omega)]) rfl (fun s h1 h2 h3 => by rw [uI_get, if_neg (by omega)]; exact hF.2.1 s h1 h2) hF.2.2.1 (fun k h1 h2 j => by rw [uI_get, if_neg (by omega)]; exact hF.2.2.2 k h1 h2 j) (fun k hk => by rw [uI_get, if_neg (by omega)]; exact hj k (by omega)))) (by decide) (by decide)
      · omega
    | succ d ih =>
      intro q M1 hq hF hj
      refine w_iload_n C dX7_clearFlaws_12 rfl ?_
      refine w_sipush (v := 720) C dX7_clearFlaws_13 rfl ?_
      refine w_icmp_ge C dX7_clearFlaws_16 (by omega) (by omega) (fun h16 => ?_) (fun h16 => ?_)
      · omega
      · refine w_aload_n C dX7_clearFlaws_19 rfl ?_
        refine g_X7_13 C dX7_clearFlaws_20 (by first | assumption | exact Nat.zero_lt_one | exact Nat.zero_lt_two | exact Nat.one_lt_two) ?_
        refine w_iload_n C dX7_clearFlaws_23 rfl ?_
        refine w_iconst C dX7_clearFlaws_24 ?_
        refine w_zastN (j := q) C dX7_clearFlaws_25 (by first | assumption | exact Nat.zero_lt_one | exact Nat.zero_lt_two | exact Nat.one_lt_two) ZA_41 (by omega) (by omega) (by omega) ?_
        refine w_iinc C dX7_clearFlaws_26 rfl (by decide) ?_
        refine w_goto C dX7_clearFlaws_29 ?_
        refine Wm.lsub (lv' := [(0, aO 40 0), (1, aI (M.1 40 0 5)), (2, aI ((q + 1 : Nat) : Int))]) ⟨rfl, rfl, rfl, trivial⟩ (ih (q + 1) _ (by omega) ⟨hF.1, fun s h1 h2 => by rw [uI_get, if_neg (by omega)]; exact hF.2.1 s h1 h2, hF.2.2.1, fun k h1 h2 j => by rw [uI_get, if_neg (by omega)]; exact hF.2.2.2 k h1 h2 j⟩ (fun j h => ?_))
        rw [uI_get]
        split
        · rfl
        · exact hj j (by omega)
  refine w_aload_n C dX7_clearFlaws_0 rfl ?_
  refine w_iconst C dX7_clearFlaws_1 ?_
  refine p_X7_109 C dX7_clearFlaws_2 (by first | assumption | exact Nat.zero_lt_one | exact Nat.zero_lt_two | exact Nat.one_lt_two) ?_
  refine w_aload_n C dX7_clearFlaws_5 rfl ?_
  refine g_X7_126 C dX7_clearFlaws_6 (by first | assumption | exact Nat.zero_lt_one | exact Nat.zero_lt_two | exact Nat.one_lt_two) ?_
  refine w_istore_n C dX7_clearFlaws_9 (by decide) ?_
  refine w_iconst C dX7_clearFlaws_10 ?_
  refine w_istore_n C dX7_clearFlaws_11 (by decide) ?_
  exact Wm.lsub (lv' := [(0, aO 40 0), (1, aI (M.1 40 0 5)), (2, aI ((0 : Nat) : Int))]) ⟨rfl, rfl, rfl, trivial⟩ (loop 720 0 _ (by omega) ⟨rfl, fun s h1 h2 => by rw [uI_get, if_neg (by omega)], rfl, fun k h1 h2 j => by rw [uI_get, if_neg (by omega)]⟩ (fun j h => absurd h (Nat.not_lt_zero j)))
end Mo
