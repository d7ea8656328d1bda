-- MODEL
/-! the model: shapes, reads of the marker -/
theorem b2_cg {p q : Prop} [Decidable p] [Decidable q] (h : p ↔ q) : b2 p = b2 q := by
  by_cases hp : p
  · rw [b2_t hp, b2_t (h.mp hp)]
  · rw [b2_f hp, b2_f (fun hq => hp (h.mpr hq))]
theorem b2_1 {p : Prop} [Decidable p] {z : Int} (h : b2 p = z) (hz : z ≠ 0) : p := Decidable.byContradiction fun q => hz (by rw [← h, b2_f q])
theorem b2_n0 {p : Prop} [Decidable p] (h : b2 p ≠ 0) : p := Decidable.byContradiction fun q => h (b2_f q)
theorem b2_is0 {p : Prop} [Decidable p] (h : b2 p = 0) : ¬ p := fun q => by
  rw [b2_t q] at h
  cases h
theorem gar0 {S : Sg} {j : Nat} (h : ∀ y, ctS S y j = 0) : garS S j = 0 := by
  unfold garS
  exact sumN_0.mpr fun y _ => by rw [h y, Nat.zero_mul, Nat.mul_zero]
theorem eS_0 {S : Sg} (hZ : InvZ S) {j : Nat} (hj : nsS S ≤ j) : eS S j = 0 := by
  obtain ⟨z1, z2, z3, z4, z5, z6, z7, z8, z9, z10⟩ := hZ.1 j hj
  unfold eS
  rw [z8, z9, gar0 z10]
theorem up3_ne {α : Type} (f : Nat → Nat → Nat → α) {k i s k' i' s' : Nat} (v : α) (h : ¬ (k' = k ∧ i' = i ∧ s' = s)) : up3 f k i s v k' i' s' = f k' i' s' := if_neg h
theorem up3_eq {α : Type} (f : Nat → Nat → Nat → α) (k i s : Nat) (v : α) : up3 f k i s v k i s = v := if_pos ⟨rfl, rfl, rfl⟩
def plc (P : List Pc) (z : Int) : Int := match slotS P z with
  | some i => (i : Int)
  | none => -1
theorem RepMo.addSh {S : Sg} {P : List Pc} {nx : Nat} {M : Mem} {a v : Int} {b : Nat} (h : RepMo S P nx M) (hI : Inv S P nx) (hZ : InvZ S) (h8 : nsS S < 8) (ha : 0 ≤ a) (hv : v = ((nsS S + 1 : Nat) : Int)) : RepMo (up3 (up3 (up3 S 7 (nsS S) 0 a.toNat) 8 (nsS S) 0 b) 6 0 0 (nsS S + 1)) P nx (uI (uI (uI M 47 0 (nsS S) a) 42 0 (nsS S) b) 40 0 7 v) := by
  obtain ⟨⟨m1, m2, m3, m4, m5, m6, m7, m8, m9, m10, m11⟩, n2, n3, n4, n5, n6, n7⟩ := h
  generalize hS : up3 (up3 (up3 S 7 (nsS S) 0 a.toNat) 8 (nsS S) 0 b) 6 0 0 (nsS S + 1) = S'
  have e : ∀ f i q, ¬ (f = 6 ∨ (f = 7 ∨ f = 8) ∧ i = nsS S) → S' f i q = S f i q := fun f i q h => by
    rw [← hS, up3_ne _ _ (by omega), up3_ne _ _ (by omega), up3_ne _ _ (by omega)]
  have e6 : nsS S' = nsS S + 1 := by
    show S' 6 0 0 = _
    rw [← hS, up3_eq]
  have hcg : ∀ p ∈ P, ShpCg S S' (pShp p) := fun p hp => by
    refine ⟨?_, e 11 _ 0 (by omega), e 12 _ 0 (by omega), e 13 _ 0 (by omega)⟩
    funext k
    unfold dB
    rw [show drS S' (pShp p) k = drS S (pShp p) k from e 9 _ k (by omega)]
  have hgar : ∀ j, garS S' j = garS S j := fun j => by
    unfold garS
    refine sumN_cg fun y _ => ?_
    rw [show mdS S' y = mdS S y from e 17 y 0 (by omega), show ctS S' y j = ctS S y j from e 16 y j (by omega)]
    by_cases hj : j = nsS S
    · obtain ⟨z1, z2, z3, z4, z5, z6, z7, z8, z9, z10⟩ := hZ.1 j (by omega)
      rw [z10 y, Nat.zero_mul, Nat.zero_mul]
    · unfold pppS
      rw [show paS S' j = paS S j from e 8 j 0 (by omega)]
  have heS : ∀ j, eS S' j = eS S j := fun j => by
    unfold eS
    rw [hgar, show stS S' j 0 = stS S j 0 from e 14 j 0 (by omega), show stS S' j 1 = stS S j 1 from e 14 j 1 (by omega)]
  have hcut : cutS S' = cutS S := by
    unfold cutS
    rw [e6, sumN, heS, eS_0 hZ (Nat.le_refl _), Nat.add_zero]
    exact sumN_cg fun j _ => heS j
  refine ⟨⟨?_, ?_, ?_, ?_, ?_, ?_, m7, m8, ?_, ?_, ?_⟩, fun k hk => ?_, fun j hj => ?_, fun j k hj hk => ?_, ?_, fun y j hy hj => ?_, fun y hy => ?_⟩
  · rw [show wdS S' = wdS S from e 0 0 0 (by omega)]; exact m1
  · rw [show npS S' = npS S from e 1 0 0 (by omega)]; exact m2
  · rw [show fdS S' = fdS S from e 2 0 0 (by omega)]; exact m3
  · rw [show srS S' = srS S from e 3 0 0 (by omega)]; exact m4
  · rw [show nfS S' = nfS S from e 4 0 0 (by omega)]; exact m5
  · rw [e6]; exact hv
  · rw [show ntS S' = ntS S from e 15 0 0 (by omega)]; exact m9
  · rw [show rlS S' = rlS S from e 18 0 0 (by omega)]; exact m10
  · rw [hcut]; exact m11
  · rw [show flS S' k = flS S k from e 5 0 k (by omega)]; exact n2 k hk
  · obtain ⟨a1, a2, a3, a4, a5, a6, a7, a8, a9⟩ := n3 j hj
    refine ⟨?_, ?_, ?_, ?_, ?_, ?_, ?_, ?_, ?_⟩
    · by_cases hj' : j = nsS S
      · subst hj'
        rw [show ruS S' (nsS S) = a.toNat by rw [← hS]; exact (up3_ne _ _ (by omega)).trans ((up3_ne _ _ (by omega)).trans (up3_eq _ _ _ _ _))]
        rw [uI_get, if_neg (by omega), uI_get, if_neg (by omega), uI_get, if_pos ⟨rfl, rfl, rfl⟩]
        omega
      · rw [show ruS S' j = ruS S j from e 7 j 0 (by omega), uI_get, if_neg (by omega), uI_get, if_neg (by omega), uI_get, if_neg (by omega)]
        exact a1
    · by_cases hj' : j = nsS S
      · subst hj'
        rw [show paS S' (nsS S) = b by rw [← hS]; exact (up3_ne _ _ (by omega)).trans (up3_eq _ _ _ _ _)]
        rw [uI_get, if_neg (by omega), uI_get, if_pos ⟨rfl, rfl, rfl⟩]
      · rw [show paS S' j = paS S j from e 8 j 0 (by omega), uI_get, if_neg (by omega), uI_get, if_neg (by omega), uI_get, if_neg (by omega)]
        exact a2
    · rw [show szS S' j = szS S j from e 10 j 0 (by omega)]; exact a3
    · rw [show gpS S' j = gpS S j from e 11 j 0 (by omega)]; exact a4
    · rw [show mrS S' j = mrS S j from e 12 j 0 (by omega)]; exact a5
    · rw [show mcS S' j = mcS S j from e 13 j 0 (by omega)]; exact a6
    · rw [heS]; exact a7
    · rw [show stS S' j 0 = stS S j 0 from e 14 j 0 (by omega)]; exact a8
    · rw [show stS S' j 1 = stS S j 1 from e 14 j 1 (by omega)]; exact a9
  · rw [show drS S' j k = drS S j k from e 9 j k (by omega)]; exact n4 j k hj hk
  · exact RepMM.cg hcg (fun _ => e 3 0 0 (by omega)) (n5.fr fun k hk j => by rw [uI_get, if_neg (by omega), uI_get, if_neg (by omega), uI_get, if_neg (by omega)])
  · rw [show ctS S' y j = ctS S y j from e 16 y j (by omega)]; exact n6 y j hy hj
  · rw [show mdS S' y = mdS S y from e 17 y 0 (by omega)]; exact n7 y hy
section Mo
variable {l : Launch} {b0 : Nat → Prop} {ad : Ads} {M : Mem}
theorem c_X7_isShape (hl : l.stackTraces = false) {S : Sg} {P : List Pc} {nx : Nat} (hG : GInv S) (hR : RepMo S P nx M) (a : Int) (ha : -2147483648 ≤ a ∧ a ≤ 2147483647) : Con l b0 yX7_isShape cX7_isShape 2 (some .boolean) 2 0 0 [aO 40 0, aI a] ad cntM M (fun r M' => M' = M ∧ r = some (aI (b2 (0 ≤ a ∧ a < nsS S)))) noX := by
  obtain ⟨r1, r2, r3, r4, r5, r6⟩ := hR.rg hG
  have e7 := hR.1.2.2.2.2.2.1
  refine Con.of hl pl_X7 (Nat.le_of_ble_eq_true rfl) ?_
  intro D cA p e s m args below meth c C hr
  refine w_iload_n C dX7_isShape_0 rfl ?_
  refine w_iconst C dX7_isShape_1 ?_
  refine w_aload_n C dX7_isShape_2 rfl ?_
  refine g_X7_143 C dX7_isShape_3 (by first | assumption | exact Nat.zero_lt_one | exact Nat.zero_lt_two | exact Nat.one_lt_two) ?_
  refine w_iconst C dX7_isShape_6 ?_
  refine w_isub C dX7_isShape_7 ?_
  refine w_callS C dX7_isShape_8 (c_X7_in hl a 0 (M.1 40 0 7 - 1) (by omega) (by omega) (by omega)) mX7_in sX7_in lk_X7_122 rfl rfl ⟨by decide, by decide, by decide, by decide⟩ (Nat.le_of_ble_eq_true rfl) (fun _ _ h => h.elim) ⟨by decide, by decide⟩ (fun r_ M_ q8 => ?_)
  obtain ⟨rfl, rfl⟩ := q8
  refine w_iret C hr dX7_isShape_11 (by first | exact narrow_z (b2_01 _) | exact narrow_z (by omega)) (⟨rfl, congrArg (fun z : Int => some (aI z)) (b2_cg (by omega))⟩) (by decide) (by decide)
theorem c_X7_isStyle (hl : l.stackTraces = false) {S : Sg} {P : List Pc} {nx : Nat} (hG : GInv S) (hR : RepMo S P nx M) (a : Int) (ha : -2147483648 ≤ a ∧ a ≤ 2147483647) : Con l b0 yX7_isStyle cX7_isStyle 2 (some .boolean) 2 0 0 [aO 40 0, aI a] ad cntM M (fun r M' => M' = M ∧ r = some (aI (b2 (0 ≤ a ∧ a < ntS S)))) noX := by
  have e7 := hR.1.2.2.2.2.2.2.2.2.1
  have g7 := hG.2.2.2.2.2.2.1
  refine Con.of hl pl_X7 (Nat.le_of_ble_eq_true rfl) ?_
  intro D cA p e s m args below meth c C hr
  refine w_iload_n C dX7_isStyle_0 rfl ?_
  refine w_iconst C dX7_isStyle_1 ?_
  refine w_aload_n C dX7_isStyle_2 rfl ?_
  refine g_X7_227 C dX7_isStyle_3 (by first | assumption | exact Nat.zero_lt_one | exact Nat.zero_lt_two | exact Nat.one_lt_two) ?_
  refine w_iconst C dX7_isStyle_6 ?_
  refine w_isub C dX7_isStyle_7 ?_
  refine w_callS C dX7_isStyle_8 (c_X7_in hl a 0 (M.1 40 0 28 - 1) (by omega) (by omega) (by omega)) mX7_in sX7_in lk_X7_122 rfl rfl ⟨by decide, by decide, by decide, by decide⟩ (Nat.le_of_ble_eq_true rfl) (fun _ _ h => h.elim) ⟨by decide, by decide⟩ (fun r_ M_ q8 => ?_)
  obtain ⟨rfl, rfl⟩ := q8
  refine w_iret C hr dX7_isStyle_11 (by first | exact narrow_z (b2_01 _) | exact narrow_z (by omega)) (⟨rfl, congrArg (fun z : Int => some (aI z)) (b2_cg (by omega))⟩) (by decide) (by decide)
theorem c_X7_addShape (hl : l.stackTraces = false) {S : Sg} {P : List Pc} {nx : Nat} (hI : Inv S P nx) (hZ : InvZ S) (hR : RepMo S P nx M) (a : Int) (ha : 0 ≤ a ∧ a ≤ 65535) (b : Nat) (hb : b ≤ 1) : Con l b0 yX7_addShape cX7_addShape 4 (some .int) 2 0 0 [aO 40 0, aI a, aI b] ad cntM M (okM (oAddShape a b S P nx)) noX := by
  obtain ⟨r1, r2, r3, r4, r5, r6⟩ := hR.rg hI.1
  have e7 := hR.1.2.2.2.2.2.1
  refine Con.of hl pl_X7 (Nat.le_of_ble_eq_true rfl) ?_
  intro D cA p e s m args below meth c C hr
  refine w_iload_n C dX7_addShape_0 rfl ?_
  refine w_bipush (v := 110) C dX7_addShape_1 rfl ?_
  refine w_icmp_eq C dX7_addShape_3 (by omega) (by omega) (fun h3 => ?_) (fun h3 => ?_)
  · refine w_iconst C dX7_addShape_18 ?_
    refine w_goto C dX7_addShape_19 ?_
    refine w_istore_n C dX7_addShape_23 (by decide) ?_
    refine w_aload_n C dX7_addShape_24 rfl ?_
    refine w_iload_n C dX7_addShape_25 rfl ?_
    refine w_if_ne_y C dX7_addShape_26 (by omega) (by decide) ?_
    refine w_aload_n C dX7_addShape_33 rfl ?_
    refine g_X7_143 C dX7_addShape_34 (by first | assumption | exact Nat.zero_lt_one | exact Nat.zero_lt_two | exact Nat.one_lt_two) ?_
    refine w_bipush (v := 8) C dX7_addShape_37 rfl ?_
    refine w_icmp_ne C dX7_addShape_39 (by omega) (by omega) (fun h39 => ?_) (fun h39 => ?_)
    · refine w_iconst C dX7_addShape_46 ?_
      refine w_callV C dX7_addShape_47 (c_X7_failsN hl 0 (by omega)) mX7_fails vX7_fails lk_X7_129 (by first | assumption | exact Nat.zero_lt_one | exact Nat.zero_lt_two | exact Nat.one_lt_two) rfl rfl rfl rfl ⟨by decide, by decide, by decide, by decide⟩ (Nat.le_of_ble_eq_true rfl) (fun _ _ h => h.elim) ⟨by decide, by decide⟩ (fun r_ MF q47 => ?_)
      obtain ⟨kF, kT, rfl⟩ := q47
      have hRF := hR.fr kF.fr
      refine w_if_eq_y C dX7_addShape_50 (by omega) (by decide) ?_
      have g7 := hRF.1.2.2.2.2.2.1
      refine w_aload_n C dX7_addShape_55 rfl ?_
      refine g_X7_17 C dX7_addShape_56 (by first | assumption | exact Nat.zero_lt_one | exact Nat.zero_lt_two | exact Nat.one_lt_two) ?_
      refine w_aload_n C dX7_addShape_59 rfl ?_
      refine g_X7_143 C dX7_addShape_60 (by first | assumption | exact Nat.zero_lt_one | exact Nat.zero_lt_two | exact Nat.one_lt_two) ?_
      refine w_iload_n C dX7_addShape_63 rfl ?_
      refine w_castN (j := nsS S) C dX7_addShape_64 (by first | assumption | exact Nat.zero_lt_one | exact Nat.zero_lt_two | exact Nat.one_lt_two) CA_47 (by omega) (by omega) (by omega) ?_
      refine w_aload_n C dX7_addShape_65 rfl ?_
      refine g_X7_21 C dX7_addShape_66 (by first | assumption | exact Nat.zero_lt_one | exact Nat.zero_lt_two | exact Nat.one_lt_two) ?_
      refine w_aload_n C dX7_addShape_69 rfl ?_
      refine g_X7_143 C dX7_addShape_70 (by first | assumption | exact Nat.zero_lt_one | exact Nat.zero_lt_two | exact Nat.one_lt_two) ?_
      rw [show (uI MF 47 0 (nsS S) a).1 40 0 7 = nsS S from g7]
      refine w_iload_n C dX7_addShape_73 rfl ?_
      refine w_zastN (j := nsS S) C dX7_addShape_74 (by first | assumption | exact Nat.zero_lt_one | exact Nat.zero_lt_two | exact Nat.one_lt_two) ZA_42 (by omega) (by omega) (by omega) ?_
      refine w_aload_n C dX7_addShape_75 rfl ?_
      refine w_dup C dX7_addShape_76 rfl ?_
      refine g_X7_143 C dX7_addShape_77 (by first | assumption | exact Nat.zero_lt_one | exact Nat.zero_lt_two | exact Nat.one_lt_two) ?_
      refine w_iconst C dX7_addShape_80 ?_
      refine w_iadd C dX7_addShape_81 ?_
      refine p_X7_143 C dX7_addShape_82 (by first | assumption | exact Nat.zero_lt_one | exact Nat.zero_lt_two | exact Nat.one_lt_two) ?_
      refine w_aload_n C dX7_addShape_85 rfl ?_
      refine g_X7_143 C dX7_addShape_86 (by first | assumption | exact Nat.zero_lt_one | exact Nat.zero_lt_two | exact Nat.one_lt_two) ?_
      refine w_iconst C dX7_addShape_89 ?_
      refine w_isub C dX7_addShape_90 ?_
      refine w_iret C hr dX7_addShape_91 rfl (by
          refine okM_of (v := (nsS S : Int)) (S' := up3 (up3 (up3 S 7 (nsS S) 0 a.toNat) 8 (nsS S) 0 b) 6 0 0 (nsS S + 1)) (P' := P) (nx' := nx) (by unfold oAddShape; rw [if_neg (by omega), if_neg (by omega)]) (congrArg (fun z : Int => some (aI z)) (show MF.1 40 0 7 + 1 - 1 = _ by omega)) kT ?_
          exact hRF.addSh hI hZ (by omega) ha.1 (show MF.1 40 0 7 + 1 = _ by omega)) (by decide) (by decide)
    · refine w_iconst C dX7_addShape_42 ?_
      refine w_goto C dX7_addShape_43 ?_
      refine w_callV C dX7_addShape_47 (c_X7_failsY hl 2 (by omega)) mX7_fails vX7_fails lk_X7_129 (by first | assumption | exact Nat.zero_lt_one | exact Nat.zero_lt_two | exact Nat.one_lt_two) rfl rfl rfl rfl ⟨by decide, by decide, by decide, by decide⟩ (Nat.le_of_ble_eq_true rfl) (fun _ _ h => h.elim) ⟨by decide, by decide⟩ (fun r_ MF q47 => ?_)
      obtain ⟨kF, kT, rfl⟩ := q47
      have hRF := hR.fr kF.fr
      refine w_if_eq_n C dX7_addShape_50 (by omega) (by decide) ?_
      refine w_iconst C dX7_addShape_53 ?_
      refine w_iret C hr dX7_addShape_54 rfl (by first | exact okM_no (i := 1) (by unfold oAddShape; rw [if_pos (by omega)]) (by decide) rfl kT hRF | exact okM_no (i := 2) (by unfold oAddShape; rw [if_neg (by omega), if_pos (by omega)]) (by decide) rfl kT hRF) (by decide) (by decide)
  · refine w_iload_n C dX7_addShape_6 rfl ?_
    refine w_bipush (v := 104) C dX7_addShape_7 rfl ?_
    refine w_icmp_eq C dX7_addShape_9 (by omega) (by omega) (fun h9 => ?_) (fun h9 => ?_)
    · refine w_iconst C dX7_addShape_18 ?_
      refine w_goto C dX7_addShape_19 ?_
      refine w_istore_n C dX7_addShape_23 (by decide) ?_
      refine w_aload_n C dX7_addShape_24 rfl ?_
      refine w_iload_n C dX7_addShape_25 rfl ?_
      refine w_if_ne_y C dX7_addShape_26 (by omega) (by decide) ?_
      refine w_aload_n C dX7_addShape_33 rfl ?_
      refine g_X7_143 C dX7_addShape_34 (by first | assumption | exact Nat.zero_lt_one | exact Nat.zero_lt_two | exact Nat.one_lt_two) ?_
      refine w_bipush (v := 8) C dX7_addShape_37 rfl ?_
      refine w_icmp_ne C dX7_addShape_39 (by omega) (by omega) (fun h39 => ?_) (fun h39 => ?_)
      · refine w_iconst C dX7_addShape_46 ?_
        refine w_callV C dX7_addShape_47 (c_X7_failsN hl 0 (by omega)) mX7_fails vX7_fails lk_X7_129 (by first | assumption | exact Nat.zero_lt_one | exact Nat.zero_lt_two | exact Nat.one_lt_two) rfl rfl rfl rfl ⟨by decide, by decide, by decide, by decide⟩ (Nat.le_of_ble_eq_true rfl) (fun _ _ h => h.elim) ⟨by decide, by decide⟩ (fun r_ MF q47 => ?_)
        obtain ⟨kF, kT, rfl⟩ := q47
        have hRF := hR.fr kF.fr
        refine w_if_eq_y C dX7_addShape_50 (by omega) (by decide) ?_
        have g7 := hRF.1.2.2.2.2.2.1
        refine w_aload_n C dX7_addShape_55 rfl ?_
        refine g_X7_17 C dX7_addShape_56 (by first | assumption | exact Nat.zero_lt_one | exact Nat.zero_lt_two | exact Nat.one_lt_two) ?_
        refine w_aload_n C dX7_addShape_59 rfl ?_
        refine g_X7_143 C dX7_addShape_60 (by first | assumption | exact Nat.zero_lt_one | exact Nat.zero_lt_two | exact Nat.one_lt_two) ?_
        refine w_iload_n C dX7_addShape_63 rfl ?_
        refine w_castN (j := nsS S) C dX7_addShape_64 (by first | assumption | exact Nat.zero_lt_one | exact Nat.zero_lt_two | exact Nat.one_lt_two) CA_47 (by omega) (by omega) (by omega) ?_
        refine w_aload_n C dX7_addShape_65 rfl ?_
        refine g_X7_21 C dX7_addShape_66 (by first | assumption | exact Nat.zero_lt_one | exact Nat.zero_lt_two | exact Nat.one_lt_two) ?_
        refine w_aload_n C dX7_addShape_69 rfl ?_
        refine g_X7_143 C dX7_addShape_70 (by first | assumption | exact Nat.zero_lt_one | exact Nat.zero_lt_two | exact Nat.one_lt_two) ?_
        rw [show (uI MF 47 0 (nsS S) a).1 40 0 7 = nsS S from g7]
        refine w_iload_n C dX7_addShape_73 rfl ?_
        refine w_zastN (j := nsS S) C dX7_addShape_74 (by first | assumption | exact Nat.zero_lt_one | exact Nat.zero_lt_two | exact Nat.one_lt_two) ZA_42 (by omega) (by omega) (by omega) ?_
        refine w_aload_n C dX7_addShape_75 rfl ?_
        refine w_dup C dX7_addShape_76 rfl ?_
        refine g_X7_143 C dX7_addShape_77 (by first | assumption | exact Nat.zero_lt_one | exact Nat.zero_lt_two | exact Nat.one_lt_two) ?_
        refine w_iconst C dX7_addShape_80 ?_
        refine w_iadd C dX7_addShape_81 ?_
        refine p_X7_143 C dX7_addShape_82 (by first | assumption | exact Nat.zero_lt_one | exact Nat.zero_lt_two | exact Nat.one_lt_two) ?_
        refine w_aload_n C dX7_addShape_85 rfl ?_
        refine g_X7_143 C dX7_addShape_86 (by first | assumption | exact Nat.zero_lt_one | exact Nat.zero_lt_two | exact Nat.one_lt_two) ?_
        refine w_iconst C dX7_addShape_89 ?_
        refine w_isub C dX7_addShape_90 ?_
        refine w_iret C hr dX7_addShape_91 rfl (by
            refine okM_of (v := (nsS S : Int)) (S' := up3 (up3 (up3 S 7 (nsS S) 0 a.toNat) 8 (nsS S) 0 b) 6 0 0 (nsS S + 1)) (P' := P) (nx' := nx) (by unfold oAddShape; rw [if_neg (by omega), if_neg (by omega)]) (congrArg (fun z : Int => some (aI z)) (show MF.1 40 0 7 + 1 - 1 = _ by omega)) kT ?_
            exact hRF.addSh hI hZ (by omega) ha.1 (show MF.1 40 0 7 + 1 = _ by omega)) (by decide) (by decide)
      · refine w_iconst C dX7_addShape_42 ?_
        refine w_goto C dX7_addShape_43 ?_
        refine w_callV C dX7_addShape_47 (c_X7_failsY hl 2 (by omega)) mX7_fails vX7_fails lk_X7_129 (by first | assumption | exact Nat.zero_lt_one | exact Nat.zero_lt_two | exact Nat.one_lt_two) rfl rfl rfl rfl ⟨by decide, by decide, by decide, by decide⟩ (Nat.le_of_ble_eq_true rfl) (fun _ _ h => h.elim) ⟨by decide, by decide⟩ (fun r_ MF q47 => ?_)
        obtain ⟨kF, kT, rfl⟩ := q47
        have hRF := hR.fr kF.fr
        refine w_if_eq_n C dX7_addShape_50 (by omega) (by decide) ?_
        refine w_iconst C dX7_addShape_53 ?_
        refine w_iret C hr dX7_addShape_54 rfl (by first | exact okM_no (i := 1) (by unfold oAddShape; rw [if_pos (by omega)]) (by decide) rfl kT hRF | exact okM_no (i := 2) (by unfold oAddShape; rw [if_neg (by omega), if_pos (by omega)]) (by decide) rfl kT hRF) (by decide) (by decide)
    · refine w_iload_n C dX7_addShape_12 rfl ?_
      refine w_bipush (v := 113) C dX7_addShape_13 rfl ?_
      refine w_icmp_ne C dX7_addShape_15 (by omega) (by omega) (fun h15 => ?_) (fun h15 => ?_)
      · refine w_iconst C dX7_addShape_22 ?_
        refine w_istore_n C dX7_addShape_23 (by decide) ?_
        refine w_aload_n C dX7_addShape_24 rfl ?_
        refine w_iload_n C dX7_addShape_25 rfl ?_
        refine w_if_ne_n C dX7_addShape_26 (by omega) (by decide) ?_
        refine w_iconst C dX7_addShape_29 ?_
        refine w_goto C dX7_addShape_30 ?_
        refine w_callV C dX7_addShape_47 (c_X7_failsY hl 1 (by omega)) mX7_fails vX7_fails lk_X7_129 (by first | assumption | exact Nat.zero_lt_one | exact Nat.zero_lt_two | exact Nat.one_lt_two) rfl rfl rfl rfl ⟨by decide, by decide, by decide, by decide⟩ (Nat.le_of_ble_eq_true rfl) (fun _ _ h => h.elim) ⟨by decide, by decide⟩ (fun r_ MF q47 => ?_)
        obtain ⟨kF, kT, rfl⟩ := q47
        have hRF := hR.fr kF.fr
        refine w_if_eq_n C dX7_addShape_50 (by omega) (by decide) ?_
        refine w_iconst C dX7_addShape_53 ?_
        refine w_iret C hr dX7_addShape_54 rfl (by first | exact okM_no (i := 1) (by unfold oAddShape; rw [if_pos (by omega)]) (by decide) rfl kT hRF | exact okM_no (i := 2) (by unfold oAddShape; rw [if_neg (by omega), if_pos (by omega)]) (by decide) rfl kT hRF) (by decide) (by decide)
      · refine w_iconst C dX7_addShape_18 ?_
        refine w_goto C dX7_addShape_19 ?_
        refine w_istore_n C dX7_addShape_23 (by decide) ?_
        refine w_aload_n C dX7_addShape_24 rfl ?_
        refine w_iload_n C dX7_addShape_25 rfl ?_
        refine w_if_ne_y C dX7_addShape_26 (by omega) (by decide) ?_
        refine w_aload_n C dX7_addShape_33 rfl ?_
        refine g_X7_143 C dX7_addShape_34 (by first | assumption | exact Nat.zero_lt_one | exact Nat.zero_lt_two | exact Nat.one_lt_two) ?_
        refine w_bipush (v := 8) C dX7_addShape_37 rfl ?_
        refine w_icmp_ne C dX7_addShape_39 (by omega) (by omega) (fun h39 => ?_) (fun h39 => ?_)
        · refine w_iconst C dX7_addShape_46 ?_
          refine w_callV C dX7_addShape_47 (c_X7_failsN hl 0 (by omega)) mX7_fails vX7_fails lk_X7_129 (by first | assumption | exact Nat.zero_lt_one | exact Nat.zero_lt_two | exact Nat.one_lt_two) rfl rfl rfl rfl ⟨by decide, by decide, by decide, by decide⟩ (Nat.le_of_ble_eq_true rfl) (fun _ _ h => h.elim) ⟨by decide, by decide⟩ (fun r_ MF q47 => ?_)
          obtain ⟨kF, kT, rfl⟩ := q47
          have hRF := hR.fr kF.fr
          refine w_if_eq_y C dX7_addShape_50 (by omega) (by decide) ?_
          have g7 := hRF.1.2.2.2.2.2.1
          refine w_aload_n C dX7_addShape_55 rfl ?_
          refine g_X7_17 C dX7_addShape_56 (by first | assumption | exact Nat.zero_lt_one | exact Nat.zero_lt_two | exact Nat.one_lt_two) ?_
          refine w_aload_n C dX7_addShape_59 rfl ?_
          refine g_X7_143 C dX7_addShape_60 (by first | assumption | exact Nat.zero_lt_one | exact Nat.zero_lt_two | exact Nat.one_lt_two) ?_
          refine w_iload_n C dX7_addShape_63 rfl ?_
          refine w_castN (j := nsS S) C dX7_addShape_64 (by first | assumption | exact Nat.zero_lt_one | exact Nat.zero_lt_two | exact Nat.one_lt_two) CA_47 (by omega) (by omega) (by omega) ?_
          refine w_aload_n C dX7_addShape_65 rfl ?_
          refine g_X7_21 C dX7_addShape_66 (by first | assumption | exact Nat.zero_lt_one | exact Nat.zero_lt_two | exact Nat.one_lt_two) ?_
          refine w_aload_n C dX7_addShape_69 rfl ?_
          refine g_X7_143 C dX7_addShape_70 (by first | assumption | exact Nat.zero_lt_one | exact Nat.zero_lt_two | exact Nat.one_lt_two) ?_
          rw [show (uI MF 47 0 (nsS S) a).1 40 0 7 = nsS S from g7]
          refine w_iload_n C dX7_addShape_73 rfl ?_
          refine w_zastN (j := nsS S) C dX7_addShape_74 (by first | assumption | exact Nat.zero_lt_one | exact Nat.zero_lt_two | exact Nat.one_lt_two) ZA_42 (by omega) (by omega) (by omega) ?_
          refine w_aload_n C dX7_addShape_75 rfl ?_
          refine w_dup C dX7_addShape_76 rfl ?_
          refine g_X7_143 C dX7_addShape_77 (by first | assumption | exact Nat.zero_lt_one | exact Nat.zero_lt_two | exact Nat.one_lt_two) ?_
          refine w_iconst C dX7_addShape_80 ?_
          refine w_iadd C dX7_addShape_81 ?_
          refine p_X7_143 C dX7_addShape_82 (by first | assumption | exact Nat.zero_lt_one | exact Nat.zero_lt_two | exact Nat.one_lt_two) ?_
          refine w_aload_n C dX7_addShape_85 rfl ?_
          refine g_X7_143 C dX7_addShape_86 (by first | assumption | exact Nat.zero_lt_one | exact Nat.zero_lt_two | exact Nat.one_lt_two) ?_
          refine w_iconst C dX7_addShape_89 ?_
          refine w_isub C dX7_addShape_90 ?_
          refine w_iret C hr dX7_addShape_91 rfl (by
              refine okM_of (v := (nsS S : Int)) (S' := up3 (up3 (up3 S 7 (nsS S) 0 a.toNat) 8 (nsS S) 0 b) 6 0 0 (nsS S + 1)) (P' := P) (nx' := nx) (by unfold oAddShape; rw [if_neg (by omega), if_neg (by omega)]) (congrArg (fun z : Int => some (aI z)) (show MF.1 40 0 7 + 1 - 1 = _ by omega)) kT ?_
              exact hRF.addSh hI hZ (by omega) ha.1 (show MF.1 40 0 7 + 1 = _ by omega)) (by decide) (by decide)
        · refine w_iconst C dX7_addShape_42 ?_
          refine w_goto C dX7_addShape_43 ?_
          refine w_callV C dX7_addShape_47 (c_X7_failsY hl 2 (by omega)) mX7_fails vX7_fails lk_X7_129 (by first | assumption | exact Nat.zero_lt_one | exact Nat.zero_lt_two | exact Nat.one_lt_two) rfl rfl rfl rfl ⟨by decide, by decide, by decide, by decide⟩ (Nat.le_of_ble_eq_true rfl) (fun _ _ h => h.elim) ⟨by decide, by decide⟩ (fun r_ MF q47 => ?_)
          obtain ⟨kF, kT, rfl⟩ := q47
          have hRF := hR.fr kF.fr
          refine w_if_eq_n C dX7_addShape_50 (by omega) (by decide) ?_
          refine w_iconst C dX7_addShape_53 ?_
          refine w_iret C hr dX7_addShape_54 rfl (by first | exact okM_no (i := 1) (by unfold oAddShape; rw [if_pos (by omega)]) (by decide) rfl kT hRF | exact okM_no (i := 2) (by unfold oAddShape; rw [if_neg (by omega), if_pos (by omega)]) (by decide) rfl kT hRF) (by decide) (by decide)
theorem c_X7_cellsOf (hl : l.stackTraces = false) {S : Sg} {P : List Pc} {nx : Nat} (hI : Inv S P nx) (hR : RepMo S P nx M) (a : Int) (ha : -2147483648 ≤ a ∧ a ≤ 2147483647) : Con l b0 yX7_cellsOf cX7_cellsOf 2 (some .int) 3 0 0 [aO 40 0, aI a] ad cntM M (okM (oCellsOf a S P nx)) noX := by
  obtain ⟨r1, r2, r3, r4, r5, r6⟩ := hR.rg hI.1
  have b1 := b2_01 (0 ≤ a ∧ a < nsS S)
  refine Con.of hl pl_X7 (Nat.le_of_ble_eq_true rfl) ?_
  intro D cA p e s m args below meth c C hr
  refine w_aload_n C dX7_cellsOf_0 rfl ?_
  refine w_aload_n C dX7_cellsOf_1 rfl ?_
  refine w_iload_n C dX7_cellsOf_2 rfl ?_
  refine w_callV C dX7_cellsOf_3 (c_X7_isShape hl hI.1 hR a ha) mX7_isShape vX7_isShape lk_X7_146 (by first | assumption | exact Nat.zero_lt_one | exact Nat.zero_lt_two | exact Nat.one_lt_two) rfl rfl rfl rfl ⟨by decide, by decide, by decide, by decide⟩ (Nat.le_of_ble_eq_true rfl) (fun _ _ h => h.elim) ⟨by decide, by decide⟩ (fun r_ M_ q3 => ?_)
  obtain ⟨rfl, rfl⟩ := q3
  refine w_if_eq C dX7_cellsOf_6 (by omega) (fun h6 => ?_) (fun h6 => ?_)
  · have y1 := b2_is0 h6
    refine w_iconst C dX7_cellsOf_13 ?_
    refine w_callV C dX7_cellsOf_14 (c_X7_failsY hl 1 (by omega)) mX7_fails vX7_fails lk_X7_129 (by first | assumption | exact Nat.zero_lt_one | exact Nat.zero_lt_two | exact Nat.one_lt_two) rfl rfl rfl rfl ⟨by decide, by decide, by decide, by decide⟩ (Nat.le_of_ble_eq_true rfl) (fun _ _ h => h.elim) ⟨by decide, by decide⟩ (fun r_ MF q14 => ?_)
    obtain ⟨kF, kT, rfl⟩ := q14
    have hRF := hR.fr kF.fr
    refine w_if_eq_n C dX7_cellsOf_17 (by omega) (by decide) ?_
    refine w_iconst C dX7_cellsOf_20 ?_
    refine w_goto C dX7_cellsOf_21 ?_
    refine w_iret C hr dX7_cellsOf_30 rfl (by first | exact okM_no (i := 1) (v := 0) (by unfold oCellsOf; rw [if_pos y1]) (by decide) rfl kT hRF | exact okM_of (by unfold oCellsOf; rw [if_neg (fun q => q y1), Int.toNat_natCast]) (congrArg (fun z : Int => some (aI z)) (hRF.2.2.1 u (by omega)).2.2.1) kT hRF) (by decide) (by decide)
  · have y1 := b2_n0 h6
    have e7 := hR.1.2.2.2.2.2.1
    obtain ⟨u, rfl⟩ := Int.eq_ofNat_of_zero_le y1.1
    refine w_iconst C dX7_cellsOf_9 ?_
    refine w_goto C dX7_cellsOf_10 ?_
    refine w_callV C dX7_cellsOf_14 (c_X7_failsN hl 0 (by omega)) mX7_fails vX7_fails lk_X7_129 (by first | assumption | exact Nat.zero_lt_one | exact Nat.zero_lt_two | exact Nat.one_lt_two) rfl rfl rfl rfl ⟨by decide, by decide, by decide, by decide⟩ (Nat.le_of_ble_eq_true rfl) (fun _ _ h => h.elim) ⟨by decide, by decide⟩ (fun r_ MF q14 => ?_)
    obtain ⟨kF, kT, rfl⟩ := q14
    have hRF := hR.fr kF.fr
    refine w_if_eq_y C dX7_cellsOf_17 (by omega) (by decide) ?_
    refine w_aload_n C dX7_cellsOf_24 rfl ?_
    refine g_X7_27 C dX7_cellsOf_25 (by first | assumption | exact Nat.zero_lt_one | exact Nat.zero_lt_two | exact Nat.one_lt_two) ?_
    refine w_iload_n C dX7_cellsOf_28 rfl ?_
    refine w_ialdN (j := u) C dX7_cellsOf_29 (by first | assumption | exact Nat.zero_lt_one | exact Nat.zero_lt_two | exact Nat.one_lt_two) IA_48 (by omega) (by omega) ?_
    refine w_iret C hr dX7_cellsOf_30 rfl (by first | exact okM_no (i := 1) (v := 0) (by unfold oCellsOf; rw [if_pos y1]) (by decide) rfl kT hRF | exact okM_of (by unfold oCellsOf; rw [if_neg (fun q => q y1), Int.toNat_natCast]) (congrArg (fun z : Int => some (aI z)) (hRF.2.2.1 u (by omega)).2.2.1) kT hRF) (by decide) (by decide)
theorem c_X7_isLaid (hl : l.stackTraces = false) {S : Sg} {P : List Pc} {nx : Nat} (hI : Inv S P nx) (hR : RepMo S P nx M) (j : Nat) (hj : j < 8) : Con l b0 yX7_isLaid cX7_isLaid 4 (some .boolean) 1 0 0 [aO 40 0, aI j] ad cntM M (fun r M' => M' = M ∧ r = some (aI (b2 (heldS P j = true)))) noX := by
  have e17 := hR.1.2.2.2.2.2.2.1
  have hP := hI.2.2.1
  refine Con.of hl pl_X7 (Nat.le_of_ble_eq_true rfl) ?_
  intro D cA p e s m args below meth c C hr
  have loop : ∀ (b n : Nat) (A B : List Pc), P = A ++ B → A.length = n → B.length = b → Wm p l e (rmd 1 0 0) s m args below meth c 4 D cA b0 0 0 (vx_MQ below (mQ D cA b0 ad cntM (fun r M' => M' = M ∧ r = some (aI (b2 (heldS P j = true))))) (mX D cA b0 ad cntM noX) args s 0 0 b0) 4 [(0, aO 40 0), (1, aI j), (2, aI (b2 (heldS A j = true))), (3, aI n)] [] ad cntM M := by
    intro b
    induction b with
    | zero =>
      intro n A B hAB hA hB
      have hlen : P.length = n := by rw [hAB, List.length_append, hA, hB]; rfl
      refine w_iload_n C dX7_isLaid_4 rfl ?_
      refine w_aload_n C dX7_isLaid_5 rfl ?_
      refine g_X7_112 C dX7_isLaid_6 (by first | assumption | exact Nat.zero_lt_one | exact Nat.zero_lt_two | exact Nat.one_lt_two) ?_
      refine w_icmp_ge C dX7_isLaid_9 (by omega) (by omega) (fun h9 => ?_) (fun h9 => ?_)
      · refine w_iload_n C dX7_isLaid_38 rfl ?_
        refine w_iret C hr dX7_isLaid_39 (by first | exact narrow_z (b2_01 _) | exact narrow_z (by omega)) (⟨rfl, by rw [hAB, List.length_eq_zero_iff.mp hB, List.append_nil]⟩) (by decide) (by decide)
      · omega
    | succ b ih =>
      intro n A B hAB hA hB
      obtain ⟨q, B', rfl⟩ := lst_cons hB
      have hlen : P.length = n + (b + 1) := by rw [hAB, List.length_append, hA, hB]
      have hq : P[n]? = some q := by rw [hAB, ← hA]; simp
      have hqr := (hR.2.2.2.2.1.1 n q hq).2.1
      have hq8 := (hI.2.1.1 q (List.mem_of_getElem? hq)).1
      have g6 := hI.1.2.2.2.2.2.1
      have b1 := b2_01 (heldS A j = true)
      have hs : heldS (A ++ [q]) j = (heldS A j || pShp q == j) := by simp [heldS]
      refine w_iload_n C dX7_isLaid_4 rfl ?_
      refine w_aload_n C dX7_isLaid_5 rfl ?_
      refine g_X7_112 C dX7_isLaid_6 (by first | assumption | exact Nat.zero_lt_one | exact Nat.zero_lt_two | exact Nat.one_lt_two) ?_
      refine w_icmp_ge C dX7_isLaid_9 (by omega) (by omega) (fun h9 => ?_) (fun h9 => ?_)
      · omega
      · refine w_iload_n C dX7_isLaid_12 rfl ?_
        refine w_if_ne C dX7_isLaid_13 (by omega) (fun h13 => ?_) (fun h13 => ?_)
        · refine w_iconst C dX7_isLaid_26 ?_
          refine w_goto C dX7_isLaid_27 ?_
          refine w_istore_n C dX7_isLaid_31 (by decide) ?_
          refine w_iinc C dX7_isLaid_32 rfl (by decide) ?_
          refine w_goto C dX7_isLaid_35 ?_
          refine Wm.lsub (lv' := [(0, aO 40 0), (1, aI j), (2, aI (b2 (heldS (A ++ [q]) j = true))), (3, aI ((n + 1 : Nat) : Int))]) ⟨rfl, rfl, congrArg (fun z : Int => some (aI z)) ?_, rfl, trivial⟩ (ih (n + 1) (A ++ [q]) B' (by rw [hAB]; simp) (by simp [hA]) (by simpa using hB))
          rw [hs]
          first | (rw [b2_t (by rw [b2_n0 h13]; rfl)]) | (rw [b2_t (by rw [show (pShp q == j) = true from beq_iff_eq.mpr (by omega)]; simp)]) | (rw [b2_f (fun z => by rcases (Bool.or_eq_true _ _).mp z with z | z; exact absurd z (b2_is0 (by omega)); have := beq_iff_eq.mp z; omega)])
        · refine w_aload_n C dX7_isLaid_16 rfl ?_
          refine g_X7_49 C dX7_isLaid_17 (by first | assumption | exact Nat.zero_lt_one | exact Nat.zero_lt_two | exact Nat.one_lt_two) ?_
          refine w_iload_n C dX7_isLaid_20 rfl ?_
          refine w_ialdN (j := n) C dX7_isLaid_21 (by first | assumption | exact Nat.zero_lt_one | exact Nat.zero_lt_two | exact Nat.one_lt_two) IA_54 (by omega) (by omega) ?_
          refine w_iload_n C dX7_isLaid_22 rfl ?_
          refine w_icmp_ne C dX7_isLaid_23 (by omega) (by omega) (fun h23 => ?_) (fun h23 => ?_)
          · refine w_iconst C dX7_isLaid_30 ?_
            refine w_istore_n C dX7_isLaid_31 (by decide) ?_
            refine w_iinc C dX7_isLaid_32 rfl (by decide) ?_
            refine w_goto C dX7_isLaid_35 ?_
            refine Wm.lsub (lv' := [(0, aO 40 0), (1, aI j), (2, aI (b2 (heldS (A ++ [q]) j = true))), (3, aI ((n + 1 : Nat) : Int))]) ⟨rfl, rfl, congrArg (fun z : Int => some (aI z)) ?_, rfl, trivial⟩ (ih (n + 1) (A ++ [q]) B' (by rw [hAB]; simp) (by simp [hA]) (by simpa using hB))
            rw [hs]
            first | (rw [b2_t (by rw [b2_n0 h13]; rfl)]) | (rw [b2_t (by rw [show (pShp q == j) = true from beq_iff_eq.mpr (by omega)]; simp)]) | (rw [b2_f (fun z => by rcases (Bool.or_eq_true _ _).mp z with z | z; exact absurd z (b2_is0 (by omega)); have := beq_iff_eq.mp z; omega)])
          · refine w_iconst C dX7_isLaid_26 ?_
            refine w_goto C dX7_isLaid_27 ?_
            refine w_istore_n C dX7_isLaid_31 (by decide) ?_
            refine w_iinc C dX7_isLaid_32 rfl (by decide) ?_
            refine w_goto C dX7_isLaid_35 ?_
            refine Wm.lsub (lv' := [(0, aO 40 0), (1, aI j), (2, aI (b2 (heldS (A ++ [q]) j = true))), (3, aI ((n + 1 : Nat) : Int))]) ⟨rfl, rfl, congrArg (fun z : Int => some (aI z)) ?_, rfl, trivial⟩ (ih (n + 1) (A ++ [q]) B' (by rw [hAB]; simp) (by simp [hA]) (by simpa using hB))
            rw [hs]
            first | (rw [b2_t (by rw [b2_n0 h13]; rfl)]) | (rw [b2_t (by rw [show (pShp q == j) = true from beq_iff_eq.mpr (by omega)]; simp)]) | (rw [b2_f (fun z => by rcases (Bool.or_eq_true _ _).mp z with z | z; exact absurd z (b2_is0 (by omega)); have := beq_iff_eq.mp z; omega)])
  refine w_iconst C dX7_isLaid_0 ?_
  refine w_istore_n C dX7_isLaid_1 (by decide) ?_
  refine w_iconst C dX7_isLaid_2 ?_
  refine w_istore_n C dX7_isLaid_3 (by decide) ?_
  exact Wm.lsub (lv' := [(0, aO 40 0), (1, aI j), (2, aI (b2 (heldS [] j = true))), (3, aI ((0 : Nat) : Int))]) ⟨rfl, rfl, rfl, rfl, trivial⟩ (loop P.length 0 [] P rfl rfl rfl)
end Mo
