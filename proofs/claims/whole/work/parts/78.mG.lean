-- MODEL
/-! the model: takeOff, lay, nest -/
/-- what is kept while a spot is sought -/
def NsM (M M' : Mem) : Prop := (∀ s, s < 33 ∨ 39 < s → M'.1 40 0 s = M.1 40 0 s) ∧ (∀ k, k ≠ 40 → k ≠ 63 → k ≠ 64 → ∀ i, M'.1 k 0 i = M.1 k 0 i) ∧ M'.2 = M.2
theorem NsM.rf {M : Mem} : NsM M M := ⟨fun _ _ => rfl, fun _ _ _ _ _ => rfl, rfl⟩
theorem NsM.tr {M M' M'' : Mem} (h1 : NsM M M') (h2 : NsM M' M'') : NsM M M'' := ⟨fun s a => (h2.1 s a).trans (h1.1 s a), fun k a b c i => (h2.2.1 k a b c i).trans (h1.2.1 k a b c i), h2.2.2.trans h1.2.2⟩
theorem NsM.uI {M M' : Mem} {s : Nat} {v : Int} (h : NsM M M') (hk : 33 ≤ s ∧ s ≤ 39) : NsM M (uI M' 40 0 s v) :=
  ⟨fun s' a => by rw [uI_ne (by omega)]; exact h.1 s' a, fun k' a b c i => by rw [uI_ne (by omega)]; exact h.2.1 k' a b c i, h.2.2⟩
theorem TrM.ns {M M' : Mem} (h : TrM M M') : NsM M M' := ⟨fun s a => h.1 s (by omega) (by omega), h.2.1, h.2.2⟩
theorem NsM.fr {M M' : Mem} (h : NsM M M') : FrM M M' := ⟨fun s a b => h.1 s (by omega), by rw [h.2.2], fun k a b j => h.2.1 k (by omega) (by omega) (by omega) j⟩
theorem CelM.kF {S : Sg} {j t w : Nat} {M M' : Mem} (h : CelM S j t w M) (hF : FlM M M') : CelM S j t w M' := by
  obtain ⟨a1, a2, a3⟩ := h
  exact ⟨(hF.1 40 33 (by omega)).trans a1, fun i p hp => ⟨(hF.1 63 i (by omega)).trans (a2 i p hp).1, (hF.1 64 i (by omega)).trans (a2 i p hp).2⟩, (hF.1 40 36 (by omega)).trans a3⟩
section Mo
variable {l : Launch} {b0 : Nat → Prop} {ad : Ads} {M : Mem}
theorem c_X7_takeOff (hl : l.stackTraces = false) {S : Sg} {P : List Pc} {nx : Nat} (hI : Inv S P nx) (hnx : nx < 1000000) (hR : RepMo S P nx M) (a : Int) (ha : -2147483648 ≤ a ∧ a ≤ 2147483647) : Con l b0 yX7_takeOff cX7_takeOff 2 (some .int) 3 0 0 [aO 40 0, aI a] ad cntM M (okM (oTakeOff a S P nx)) noX := by
  have hP := hI.2.2.1
  cases hs : slotS P a with
  | none =>
    have hp : plc P a = -1 := by unfold plc; rw [hs]
    refine Con.of hl pl_X7 (Nat.le_of_ble_eq_true rfl) ?_
    intro D cA p e s m args below meth c C hr
    refine w_aload_n C dX7_takeOff_0 rfl ?_
    refine w_aload_n C dX7_takeOff_1 rfl ?_
    refine w_iload_n C dX7_takeOff_2 rfl ?_
    refine w_callV C dX7_takeOff_3 (c_X7_placeOf hl hI hnx hR a ha) mX7_placeOf vX7_placeOf lk_X7_211 (by first | assumption | exact Nat.zero_lt_one | exact Nat.zero_lt_two | exact Nat.one_lt_two) rfl rfl rfl rfl ⟨by decide, by decide, by decide, by decide⟩ (Nat.le_of_ble_eq_true rfl) (fun _ _ h => h.elim) ⟨by decide, by decide⟩ (fun r_ M_ q3 => ?_)
    obtain ⟨rfl, rfl⟩ := q3
    rw [hp]
    refine w_iconst C dX7_takeOff_6 ?_
    refine w_icmp_ne C dX7_takeOff_7 (by omega) (by omega) (fun h7 => ?_) (fun h7 => ?_)
    · omega
    · refine w_iconst C dX7_takeOff_10 ?_
      refine w_goto C dX7_takeOff_11 ?_
      refine w_callV C dX7_takeOff_15 (c_X7_failsY hl 1 (by omega)) mX7_fails vX7_fails lk_X7_129 (by first | assumption | exact Nat.zero_lt_one | exact Nat.zero_lt_two | exact Nat.one_lt_two) rfl rfl rfl rfl ⟨by decide, by decide, by decide, by decide⟩ (Nat.le_of_ble_eq_true rfl) (fun _ _ h => h.elim) ⟨by decide, by decide⟩ (fun r_ MF q15 => ?_)
      obtain ⟨kF, kT, rfl⟩ := q15
      have hRF := hR.fr kF.fr
      refine w_if_eq_n C dX7_takeOff_18 (by omega) (by decide) ?_
      refine w_iconst C dX7_takeOff_21 ?_
      refine w_iret C hr dX7_takeOff_22 rfl (okM_no (i := 1) (v := 0) (by unfold oTakeOff; rw [hs]) (by decide) rfl kT hRF) (by decide) (by decide)
  | some i =>
    obtain ⟨h1, q, h2, h3, h4⟩ := plc_some hs
    have hp : plc P a = i := by unfold plc; rw [hs]
    have hI2 : Inv S (P.eraseIdx i) nx := ⟨hI.1, PInv.erase hI.2.1 i, Nat.le_trans (List.length_eraseIdx_le P i) hI.2.2.1, hI.2.2.2⟩
    refine Con.of hl pl_X7 (Nat.le_of_ble_eq_true rfl) ?_
    intro D cA p e s m args below meth c C hr
    refine w_aload_n C dX7_takeOff_0 rfl ?_
    refine w_aload_n C dX7_takeOff_1 rfl ?_
    refine w_iload_n C dX7_takeOff_2 rfl ?_
    refine w_callV C dX7_takeOff_3 (c_X7_placeOf hl hI hnx hR a ha) mX7_placeOf vX7_placeOf lk_X7_211 (by first | assumption | exact Nat.zero_lt_one | exact Nat.zero_lt_two | exact Nat.one_lt_two) rfl rfl rfl rfl ⟨by decide, by decide, by decide, by decide⟩ (Nat.le_of_ble_eq_true rfl) (fun _ _ h => h.elim) ⟨by decide, by decide⟩ (fun r_ M_ q3 => ?_)
    obtain ⟨rfl, rfl⟩ := q3
    rw [hp]
    refine w_iconst C dX7_takeOff_6 ?_
    refine w_icmp_ne C dX7_takeOff_7 (by omega) (by omega) (fun h7 => ?_) (fun h7 => ?_)
    · refine w_iconst C dX7_takeOff_14 ?_
      refine w_callV C dX7_takeOff_15 (c_X7_failsN hl 0 (by omega)) mX7_fails vX7_fails lk_X7_129 (by first | assumption | exact Nat.zero_lt_one | exact Nat.zero_lt_two | exact Nat.one_lt_two) rfl rfl rfl rfl ⟨by decide, by decide, by decide, by decide⟩ (Nat.le_of_ble_eq_true rfl) (fun _ _ h => h.elim) ⟨by decide, by decide⟩ (fun r_ MF q15 => ?_)
      obtain ⟨kF, kT, rfl⟩ := q15
      have hRF := hR.fr kF.fr
      refine w_if_eq_y C dX7_takeOff_18 (by omega) (by decide) ?_
      refine w_aload_n C dX7_takeOff_23 rfl ?_
      refine w_aload_n C dX7_takeOff_24 rfl ?_
      refine w_iload_n C dX7_takeOff_25 rfl ?_
      refine w_callV C dX7_takeOff_26 (c_X7_placeOf hl hI hnx hRF a ha) mX7_placeOf vX7_placeOf lk_X7_211 (by first | assumption | exact Nat.zero_lt_one | exact Nat.zero_lt_two | exact Nat.one_lt_two) rfl rfl rfl rfl ⟨by decide, by decide, by decide, by decide⟩ (Nat.le_of_ble_eq_true rfl) (fun _ _ h => h.elim) ⟨by decide, by decide⟩ (fun r_ M_ q26 => ?_)
      obtain ⟨rfl, rfl⟩ := q26
      rw [hp]
      refine w_callV C dX7_takeOff_29 (c_X7_takes hl hI hnx hRF i q h2) mX7_takes vX7_takes lk_X7_214 (by first | assumption | exact Nat.zero_lt_one | exact Nat.zero_lt_two | exact Nat.one_lt_two) rfl rfl rfl rfl ⟨by decide, by decide, by decide, by decide⟩ (Nat.le_of_ble_eq_true rfl) (fun _ _ h => h.elim) ⟨by decide, by decide⟩ (fun r_ M2 q29 => ?_)
      obtain ⟨hR2, hF2, rfl⟩ := q29
      refine w_aload_n C dX7_takeOff_32 rfl ?_
      refine w_callV C dX7_takeOff_33 (c_X7_longest hl hI2 hnx hR2) mX7_longest vX7_longest lk_X7_218 (by first | assumption | exact Nat.zero_lt_one | exact Nat.zero_lt_two | exact Nat.one_lt_two) rfl rfl rfl rfl ⟨by decide, by decide, by decide, by decide⟩ (Nat.le_of_ble_eq_true rfl) (fun _ _ h => h.elim) ⟨by decide, by decide⟩ (fun r_ M_ q33 => ?_)
      obtain ⟨rfl, rfl⟩ := q33
      refine w_iret C hr dX7_takeOff_36 rfl (okM_of (v := (lenR S (P.eraseIdx i) : Nat)) (S' := S) (P' := P.eraseIdx i) (nx' := nx) (by unfold oTakeOff; rw [hs]) rfl ((hF2.1 0 (by decide) (by decide)).trans kT) hR2) (by decide) (by decide)
    · omega
theorem c_X7_lay (hl : l.stackTraces = false) {S : Sg} {P : List Pc} {nx : Nat} (hI : Inv S P nx) (hC : InvC S) (hnx : nx < 1000000) (hR : RepMo S P nx M) (a t b c' : Int) (w : Nat) (hw : w ≤ 1) (ha : -2147483648 ≤ a ∧ a ≤ 2147483647) (ht : -2147483648 ≤ t ∧ t ≤ 2147483647) (hb : -2147483648 ≤ b ∧ b ≤ 2147483647) (hc : -2147483648 ≤ c' ∧ c' ≤ 2147483647) : Con l b0 yX7_lay cX7_lay 6 (some .int) 4 0 0 [aO 40 0, aI a, aI t, aI b, aI c', aI w] ad cntM M (okM (oLay a t b c' w S P nx)) noX := by
  have b1 := b2_01 (0 ≤ a ∧ a < nsS S)
  have b3 := b2_01 (0 ≤ t ∧ t ≤ 3)
  have hP := hI.2.2.1
  have e17 := hR.1.2.2.2.2.2.2.1
  refine Con.of hl pl_X7 (Nat.le_of_ble_eq_true rfl) ?_
  intro D cA p e s m args below meth c C hr
  refine w_aload_n C dX7_lay_0 rfl ?_
  refine w_aload_n C dX7_lay_1 rfl ?_
  refine w_iload_n C dX7_lay_2 rfl ?_
  refine w_callV C dX7_lay_3 (c_X7_isShape hl hI.1 hR a ha) mX7_isShape vX7_isShape lk_X7_146 (by first | assumption | exact Nat.zero_lt_one | exact Nat.zero_lt_two | exact Nat.one_lt_two) rfl rfl rfl rfl ⟨by decide, by decide, by decide, by decide⟩ (Nat.le_of_ble_eq_true rfl) (fun _ _ h => h.elim) ⟨by decide, by decide⟩ (fun r_ M_ q3 => ?_)
  obtain ⟨rfl, rfl⟩ := q3
  refine w_if_ne C dX7_lay_6 (by omega) (fun h6 => ?_) (fun h6 => ?_)
  · have y1 := b2_n0 h6
    refine w_iload_n C dX7_lay_13 rfl ?_
    refine w_iconst C dX7_lay_14 ?_
    refine w_iconst C dX7_lay_15 ?_
    refine w_callS C dX7_lay_16 (c_X7_in hl t 0 3 (by omega) (by omega) (by omega)) mX7_in sX7_in lk_X7_122 rfl rfl ⟨by decide, by decide, by decide, by decide⟩ (Nat.le_of_ble_eq_true rfl) (fun _ _ h => h.elim) ⟨by decide, by decide⟩ (fun r_ M_ q16 => ?_)
    obtain ⟨rfl, rfl⟩ := q16
    refine w_if_ne C dX7_lay_19 (by omega) (fun h19 => ?_) (fun h19 => ?_)
    · have y2 := b2_n0 h19
      obtain ⟨u, rfl⟩ := Int.eq_ofNat_of_zero_le y1.1
      obtain ⟨v, rfl⟩ := Int.eq_ofNat_of_zero_le y2.1
      refine w_aload_n C dX7_lay_26 rfl ?_
      refine w_iload_n C dX7_lay_27 rfl ?_
      refine w_iload_n C dX7_lay_28 rfl ?_
      refine w_iload_n C dX7_lay_29 rfl ?_
      refine w_iload C dX7_lay_30 rfl ?_
      refine w_iload C dX7_lay_32 rfl ?_
      refine w_callV C dX7_lay_34 (c_X7_reasonFor hl hI hC hnx hR u (by omega) v w (by omega) hw b c' hb hc) mX7_reasonFor vX7_reasonFor lk_X7_190 (by first | assumption | exact Nat.zero_lt_one | exact Nat.zero_lt_two | exact Nat.one_lt_two) rfl rfl rfl rfl ⟨by decide, by decide, by decide, by decide⟩ (Nat.le_of_ble_eq_true rfl) (fun _ _ h => h.elim) ⟨by decide, by decide⟩ (fun r_ M2 q34 => ?_)
      obtain ⟨kT2, kC, rfl⟩ := q34
      have hR := hR.fr kT2.fr
      have hrs := reason_bd S P u v w b c'
      have d17 : M2.1 40 0 17 = P.length := hR.1.2.2.2.2.2.2.1
      refine w_bipush (v := 45) C dX7_lay_37 rfl ?_
      refine w_icmp_eq C dX7_lay_39 (by omega) (by omega) (fun h39 => ?_) (fun h39 => ?_)
      · refine w_aload_n C dX7_lay_46 rfl ?_
        refine g_X7_112 C dX7_lay_47 (by first | assumption | exact Nat.zero_lt_one | exact Nat.zero_lt_two | exact Nat.one_lt_two) ?_
        refine w_bipush (v := 40) C dX7_lay_50 rfl ?_
        refine w_icmp_ne C dX7_lay_52 (by omega) (by omega) (fun h52 => ?_) (fun h52 => ?_)
        · refine w_iconst C dX7_lay_59 ?_
          refine w_callV C dX7_lay_60 (c_X7_failsN hl 0 (by omega)) mX7_fails vX7_fails lk_X7_129 (by first | assumption | exact Nat.zero_lt_one | exact Nat.zero_lt_two | exact Nat.one_lt_two) rfl rfl rfl rfl ⟨by decide, by decide, by decide, by decide⟩ (Nat.le_of_ble_eq_true rfl) (fun _ _ h => h.elim) ⟨by decide, by decide⟩ (fun r_ MF q60 => ?_)
          obtain ⟨kF, kT, rfl⟩ := q60
          have hRF := hR.fr kF.fr
          refine w_if_eq_y C dX7_lay_63 (by omega) (by decide) ?_
          have hfr := (show reasonS S P u v w b c' = 45 by omega)
          have hff := reason_free hfr
          obtain ⟨bu, rfl⟩ := Int.eq_ofNat_of_zero_le hff.2.2.2.1.1.1
          obtain ⟨cu, rfl⟩ := Int.eq_ofNat_of_zero_le hff.2.2.2.1.2.1
          have hCel := (kC hfr).kF kF
          refine w_aload_n C dX7_lay_68 rfl ?_
          refine w_iload_n C dX7_lay_69 rfl ?_
          refine w_iload_n C dX7_lay_70 rfl ?_
          refine w_iload_n C dX7_lay_71 rfl ?_
          refine w_iload C dX7_lay_72 rfl ?_
          refine w_iload C dX7_lay_74 rfl ?_
          refine w_callV C dX7_lay_76 (c_X7_puts hl hI (by omega) hRF u (by omega) v w (by omega) hw bu cu hfr hCel) mX7_puts vX7_puts lk_X7_194 (by first | assumption | exact Nat.zero_lt_one | exact Nat.zero_lt_two | exact Nat.one_lt_two) rfl rfl rfl rfl ⟨by decide, by decide, by decide, by decide⟩ (Nat.le_of_ble_eq_true rfl) (fun _ _ h => h.elim) ⟨by decide, by decide⟩ (fun r_ M3 q76 => ?_)
          obtain ⟨hR3, hF3, rfl⟩ := q76
          refine w_iret C hr dX7_lay_79 rfl (okM_of (v := (nx : Int)) (S' := S) (P' := P ++ [(nx, u, v, bu, cu, w)]) (nx' := nx + 1) (by unfold oLay; rw [if_neg (fun q => q y1), if_neg (fun q => q y2), Int.toNat_natCast, Int.toNat_natCast, if_neg (by omega), if_neg (by omega), Int.toNat_natCast, Int.toNat_natCast]) rfl ((hF3.1 0 (by decide) (by decide)).trans kT) hR3) (by decide) (by decide)
        · refine w_iconst C dX7_lay_55 ?_
          refine w_goto C dX7_lay_56 ?_
          refine w_callV C dX7_lay_60 (c_X7_failsY hl 4 (by omega)) mX7_fails vX7_fails lk_X7_129 (by first | assumption | exact Nat.zero_lt_one | exact Nat.zero_lt_two | exact Nat.one_lt_two) rfl rfl rfl rfl ⟨by decide, by decide, by decide, by decide⟩ (Nat.le_of_ble_eq_true rfl) (fun _ _ h => h.elim) ⟨by decide, by decide⟩ (fun r_ MF q60 => ?_)
          obtain ⟨kF, kT, rfl⟩ := q60
          have hRF := hR.fr kF.fr
          refine w_if_eq_n C dX7_lay_63 (by omega) (by decide) ?_
          refine w_iconst C dX7_lay_66 ?_
          refine w_iret C hr dX7_lay_67 rfl (by
              first
              | exact okM_no (i := 1) (v := 0) (by unfold oLay; rw [if_pos y1]) (by decide) rfl kT hRF
              | exact okM_no (i := 2) (v := 0) (by unfold oLay; rw [if_neg (fun q => q y1), if_pos y2]) (by decide) rfl kT hRF
              | exact okM_no (i := 3) (v := 0) (by unfold oLay; rw [if_neg (fun q => q y1), if_neg (fun q => q y2), Int.toNat_natCast, Int.toNat_natCast, if_pos (by omega)]) (by decide) rfl kT hRF
              | exact okM_no (i := 4) (v := 0) (by unfold oLay; rw [if_neg (fun q => q y1), if_neg (fun q => q y2), Int.toNat_natCast, Int.toNat_natCast, if_neg (by omega), if_pos (by omega)]) (by decide) rfl kT hRF) (by decide) (by decide)
      · refine w_iconst C dX7_lay_42 ?_
        refine w_goto C dX7_lay_43 ?_
        refine w_callV C dX7_lay_60 (c_X7_failsY hl 3 (by omega)) mX7_fails vX7_fails lk_X7_129 (by first | assumption | exact Nat.zero_lt_one | exact Nat.zero_lt_two | exact Nat.one_lt_two) rfl rfl rfl rfl ⟨by decide, by decide, by decide, by decide⟩ (Nat.le_of_ble_eq_true rfl) (fun _ _ h => h.elim) ⟨by decide, by decide⟩ (fun r_ MF q60 => ?_)
        obtain ⟨kF, kT, rfl⟩ := q60
        have hRF := hR.fr kF.fr
        refine w_if_eq_n C dX7_lay_63 (by omega) (by decide) ?_
        refine w_iconst C dX7_lay_66 ?_
        refine w_iret C hr dX7_lay_67 rfl (by
            first
            | exact okM_no (i := 1) (v := 0) (by unfold oLay; rw [if_pos y1]) (by decide) rfl kT hRF
            | exact okM_no (i := 2) (v := 0) (by unfold oLay; rw [if_neg (fun q => q y1), if_pos y2]) (by decide) rfl kT hRF
            | exact okM_no (i := 3) (v := 0) (by unfold oLay; rw [if_neg (fun q => q y1), if_neg (fun q => q y2), Int.toNat_natCast, Int.toNat_natCast, if_pos (by omega)]) (by decide) rfl kT hRF
            | exact okM_no (i := 4) (v := 0) (by unfold oLay; rw [if_neg (fun q => q y1), if_neg (fun q => q y2), Int.toNat_natCast, Int.toNat_natCast, if_neg (by omega), if_pos (by omega)]) (by decide) rfl kT hRF) (by decide) (by decide)
    · have y2 := b2_is0 (Decidable.not_not.mp h19)
      refine w_iconst C dX7_lay_22 ?_
      refine w_goto C dX7_lay_23 ?_
      refine w_callV C dX7_lay_60 (c_X7_failsY hl 2 (by omega)) mX7_fails vX7_fails lk_X7_129 (by first | assumption | exact Nat.zero_lt_one | exact Nat.zero_lt_two | exact Nat.one_lt_two) rfl rfl rfl rfl ⟨by decide, by decide, by decide, by decide⟩ (Nat.le_of_ble_eq_true rfl) (fun _ _ h => h.elim) ⟨by decide, by decide⟩ (fun r_ MF q60 => ?_)
      obtain ⟨kF, kT, rfl⟩ := q60
      have hRF := hR.fr kF.fr
      refine w_if_eq_n C dX7_lay_63 (by omega) (by decide) ?_
      refine w_iconst C dX7_lay_66 ?_
      refine w_iret C hr dX7_lay_67 rfl (by
          first
          | exact okM_no (i := 1) (v := 0) (by unfold oLay; rw [if_pos y1]) (by decide) rfl kT hRF
          | exact okM_no (i := 2) (v := 0) (by unfold oLay; rw [if_neg (fun q => q y1), if_pos y2]) (by decide) rfl kT hRF
          | exact okM_no (i := 3) (v := 0) (by unfold oLay; rw [if_neg (fun q => q y1), if_neg (fun q => q y2), Int.toNat_natCast, Int.toNat_natCast, if_pos (by omega)]) (by decide) rfl kT hRF
          | exact okM_no (i := 4) (v := 0) (by unfold oLay; rw [if_neg (fun q => q y1), if_neg (fun q => q y2), Int.toNat_natCast, Int.toNat_natCast, if_neg (by omega), if_pos (by omega)]) (by decide) rfl kT hRF) (by decide) (by decide)
  · have y1 := b2_is0 (Decidable.not_not.mp h6)
    refine w_iconst C dX7_lay_9 ?_
    refine w_goto C dX7_lay_10 ?_
    refine w_callV C dX7_lay_60 (c_X7_failsY hl 1 (by omega)) mX7_fails vX7_fails lk_X7_129 (by first | assumption | exact Nat.zero_lt_one | exact Nat.zero_lt_two | exact Nat.one_lt_two) rfl rfl rfl rfl ⟨by decide, by decide, by decide, by decide⟩ (Nat.le_of_ble_eq_true rfl) (fun _ _ h => h.elim) ⟨by decide, by decide⟩ (fun r_ MF q60 => ?_)
    obtain ⟨kF, kT, rfl⟩ := q60
    have hRF := hR.fr kF.fr
    refine w_if_eq_n C dX7_lay_63 (by omega) (by decide) ?_
    refine w_iconst C dX7_lay_66 ?_
    refine w_iret C hr dX7_lay_67 rfl (by
        first
        | exact okM_no (i := 1) (v := 0) (by unfold oLay; rw [if_pos y1]) (by decide) rfl kT hRF
        | exact okM_no (i := 2) (v := 0) (by unfold oLay; rw [if_neg (fun q => q y1), if_pos y2]) (by decide) rfl kT hRF
        | exact okM_no (i := 3) (v := 0) (by unfold oLay; rw [if_neg (fun q => q y1), if_neg (fun q => q y2), Int.toNat_natCast, Int.toNat_natCast, if_pos (by omega)]) (by decide) rfl kT hRF
        | exact okM_no (i := 4) (v := 0) (by unfold oLay; rw [if_neg (fun q => q y1), if_neg (fun q => q y2), Int.toNat_natCast, Int.toNat_natCast, if_neg (by omega), if_pos (by omega)]) (by decide) rfl kT hRF) (by decide) (by decide)
theorem c_X7_isNested (hl : l.stackTraces = false) {S : Sg} {P : List Pc} {nx : Nat} (hI : Inv S P nx) (hC : InvC S) (hnx : nx < 1000000) (hR : RepMo S P nx M) (j : Nat) (hj : j < nsS S) (w : Nat) (hw : w ≤ 1) : Con l b0 yX7_isNested cX7_isNested 4 (some .boolean) 4 0 0 [aO 40 0, aI j, aI w] ad cntM M (fun r9 M' => NsM M M' ∧ ((r9 = some (aI 0) ∧ FSp S P j w (-1)) ∨ ∃ s : Nat, r9 = some (aI 1) ∧ s < 2880 ∧ FSp S P j w s ∧ M'.1 40 0 37 = (s / 4 / 12 : Nat) ∧ M'.1 40 0 38 = (s / 4 % 12 : Nat) ∧ M'.1 40 0 39 = (s % 4 : Nat) ∧ CelM S j (s % 4) w M')) noX := by
  refine Con.of hl pl_X7 (Nat.le_of_ble_eq_true rfl) ?_
  intro D cA p e s m args below meth c C hr
  have L : ∀ (d n : Nat) (M1 : Mem), n + d = 2880 → NsM M M1 → (∀ s, s < n → ¬ free S P j w s) → Wm p l e (rmd 4 0 0) s m args below meth c 4 D cA b0 0 0 (vx_MQ below (mQ D cA b0 ad cntM (fun r9 M' => NsM M M' ∧ ((r9 = some (aI 0) ∧ FSp S P j w (-1)) ∨ ∃ s : Nat, r9 = some (aI 1) ∧ s < 2880 ∧ FSp S P j w s ∧ M'.1 40 0 37 = (s / 4 / 12 : Nat) ∧ M'.1 40 0 38 = (s / 4 % 12 : Nat) ∧ M'.1 40 0 39 = (s % 4 : Nat) ∧ CelM S j (s % 4) w M'))) (mX D cA b0 ad cntM noX) args s 0 0 b0) 2 [(0, aO 40 0), (1, aI j), (2, aI w), (3, aI n)] [] ad cntM M1 := by
    intro d
    induction d with
    | zero =>
      intro n M1 hn hF hno
      refine w_iload_n C dX7_isNested_2 rfl ?_
      refine w_sipush (v := 2880) C dX7_isNested_3 rfl ?_
      refine w_icmp_ge C dX7_isNested_6 (by omega) (by omega) (fun h6 => ?_) (fun h6 => ?_)
      · refine w_iconst C dX7_isNested_65 ?_
        refine w_iret C hr dX7_isNested_66 (by first | exact narrow_z (b2_01 _) | exact narrow_z (by omega)) (⟨hF, Or.inl ⟨rfl, Or.inl ⟨rfl, fun s hs => hno s (by omega)⟩⟩⟩) (by decide) (by decide)
      · omega
    | succ d ih =>
      intro n M1 hn hF hno
      have hF3 : NsM M (uI (uI (uI M1 40 0 37 (n / 4 / 12 : Nat)) 40 0 38 (n / 4 % 12 : Nat)) 40 0 39 (n % 4 : Nat)) := ((hF.uI (by omega)).uI (by omega)).uI (by omega)
      have hrs := reason_bd S P j (n % 4) w ((n / 4 / 12 : Nat) : Int) ((n / 4 % 12 : Nat) : Int)
      refine w_iload_n C dX7_isNested_2 rfl ?_
      refine w_sipush (v := 2880) C dX7_isNested_3 rfl ?_
      refine w_icmp_ge C dX7_isNested_6 (by omega) (by omega) (fun h6 => ?_) (fun h6 => ?_)
      · omega
      · refine w_aload_n C dX7_isNested_9 rfl ?_
        refine w_iload_n C dX7_isNested_10 rfl ?_
        refine w_bipush (v := 48) C dX7_isNested_11 rfl ?_
        refine w_idiv C dX7_isNested_13 (by omega) (by omega) ?_
        refine Wm.top (v' := aI ((n / 4 / 12 : Nat) : Int)) (congrArg aI (show (n : Int) / 48 = _ by omega)) ?_
        refine p_X7_198 C dX7_isNested_14 (by first | assumption | exact Nat.zero_lt_one | exact Nat.zero_lt_two | exact Nat.one_lt_two) ?_
        refine w_aload_n C dX7_isNested_17 rfl ?_
        refine w_iload_n C dX7_isNested_18 rfl ?_
        refine w_iconst C dX7_isNested_19 ?_
        refine w_idiv C dX7_isNested_20 (by omega) (by omega) ?_
        refine w_bipush (v := 12) C dX7_isNested_21 rfl ?_
        refine w_irem C dX7_isNested_23 (by omega) (by omega) ?_
        refine Wm.top (v' := aI ((n / 4 % 12 : Nat) : Int)) rfl ?_
        refine p_X7_201 C dX7_isNested_24 (by first | assumption | exact Nat.zero_lt_one | exact Nat.zero_lt_two | exact Nat.one_lt_two) ?_
        refine w_aload_n C dX7_isNested_27 rfl ?_
        refine w_iload_n C dX7_isNested_28 rfl ?_
        refine w_iconst C dX7_isNested_29 ?_
        refine w_irem C dX7_isNested_30 (by omega) (by omega) ?_
        refine Wm.top (v' := aI ((n % 4 : Nat) : Int)) rfl ?_
        refine p_X7_204 C dX7_isNested_31 (by first | assumption | exact Nat.zero_lt_one | exact Nat.zero_lt_two | exact Nat.one_lt_two) ?_
        refine w_aload_n C dX7_isNested_34 rfl ?_
        refine w_iload_n C dX7_isNested_35 rfl ?_
        refine w_aload_n C dX7_isNested_36 rfl ?_
        refine g_X7_204 C dX7_isNested_37 (by first | assumption | exact Nat.zero_lt_one | exact Nat.zero_lt_two | exact Nat.one_lt_two) ?_
        refine Wm.top (v' := aI ((n % 4 : Nat) : Int)) rfl ?_
        refine w_aload_n C dX7_isNested_40 rfl ?_
        refine g_X7_198 C dX7_isNested_41 (by first | assumption | exact Nat.zero_lt_one | exact Nat.zero_lt_two | exact Nat.one_lt_two) ?_
        refine Wm.top (v' := aI ((n / 4 / 12 : Nat) : Int)) rfl ?_
        refine w_aload_n C dX7_isNested_44 rfl ?_
        refine g_X7_201 C dX7_isNested_45 (by first | assumption | exact Nat.zero_lt_one | exact Nat.zero_lt_two | exact Nat.one_lt_two) ?_
        refine Wm.top (v' := aI ((n / 4 % 12 : Nat) : Int)) rfl ?_
        refine w_iload_n C dX7_isNested_48 rfl ?_
        refine w_callV C dX7_isNested_49 (c_X7_reasonFor hl hI hC hnx (hR.fr hF3.fr) j hj (n % 4) w (by omega) hw ((n / 4 / 12 : Nat) : Int) ((n / 4 % 12 : Nat) : Int) (by omega) (by omega)) mX7_reasonFor vX7_reasonFor lk_X7_190 (by first | assumption | exact Nat.zero_lt_one | exact Nat.zero_lt_two | exact Nat.one_lt_two) rfl rfl rfl rfl ⟨by decide, by decide, by decide, by decide⟩ (Nat.le_of_ble_eq_true rfl) (fun _ _ h => h.elim) ⟨by decide, by decide⟩ (fun r_ M2 q49 => ?_)
        obtain ⟨kT2, kC, rfl⟩ := q49
        refine w_bipush (v := 45) C dX7_isNested_52 rfl ?_
        refine w_icmp_ne C dX7_isNested_54 (by omega) (by omega) (fun h54 => ?_) (fun h54 => ?_)
        · refine w_iinc C dX7_isNested_59 rfl (by decide) ?_
          refine w_goto C dX7_isNested_62 ?_
          refine Wm.lsub (lv' := [(0, aO 40 0), (1, aI j), (2, aI w), (3, aI ((n + 1 : Nat) : Int))]) ⟨rfl, rfl, rfl, rfl, trivial⟩ (ih (n + 1) _ (by omega) (hF3.tr kT2.ns) (fun s hs => ?_))
          by_cases hsn : s = n
          · rw [hsn]
            intro z
            have z' : reasonS S P j (n % 4) w ((n / 4 / 12 : Nat) : Int) ((n / 4 % 12 : Nat) : Int) = 45 := z
            omega
          · exact hno s (by omega)
        · refine w_iconst C dX7_isNested_57 ?_
          refine w_iret C hr dX7_isNested_58 (by first | exact narrow_z (b2_01 _) | exact narrow_z (by omega)) (⟨hF3.tr kT2.ns, Or.inr ⟨n, rfl, by omega, Or.inr ⟨n, by omega, rfl, (show reasonS S P j (n % 4) w ((n / 4 / 12 : Nat) : Int) ((n / 4 % 12 : Nat) : Int) = 45 by omega), hno⟩, kT2.1 37 (by decide) (by decide), kT2.1 38 (by decide) (by decide), kT2.1 39 (by decide) (by decide), kC (by omega)⟩⟩) (by decide) (by decide)
  refine w_iconst C dX7_isNested_0 ?_
  refine w_istore_n C dX7_isNested_1 (by decide) ?_
  exact Wm.lsub (lv' := [(0, aO 40 0), (1, aI j), (2, aI w), (3, aI ((0 : Nat) : Int))]) ⟨rfl, rfl, rfl, rfl, trivial⟩ (L 2880 0 M (by omega) NsM.rf (fun s hs => absurd hs (Nat.not_lt_zero s)))
theorem c_X7_nest (hl : l.stackTraces = false) {S : Sg} {P : List Pc} {nx : Nat} (hI : Inv S P nx) (hC : InvC S) (hnx : nx < 1000000) (hR : RepMo S P nx M) (a : Int) (w : Nat) (hw : w ≤ 1) (ha : -2147483648 ≤ a ∧ a ≤ 2147483647) (z : Int) (hz : FSp S P a.toNat w z) : Con l b0 yX7_nest cX7_nest 3 (some .int) 5 0 0 [aO 40 0, aI a, aI w] ad cntM M (okM (oNest a w z S P nx)) noX := by
  have b1 := b2_01 (0 ≤ a ∧ a < nsS S)
  have hP := hI.2.2.1
  refine Con.of hl pl_X7 (Nat.le_of_ble_eq_true rfl) ?_
  intro D cA p e s m args below meth c C hr
  have KN : ∀ u : Nat, a = (u : Int) → (0 ≤ (u : Int) ∧ (u : Int) < nsS S) → ∀ M1, M1 = M → Wm p l e (rmd 5 0 0) s m args below meth c 3 D cA b0 0 0 (vx_MQ below (mQ D cA b0 ad cntM (okM (oNest a w z S P nx))) (mX D cA b0 ad cntM noX) args s 0 0 b0) 16 [(0, aO 40 0), (1, aI u), (2, aI w)] [aI w, aI u, aO 40 0, aO 40 0] ad cntM M1 := by
    intro u hau y1 M1 hM1
    subst hM1
    rw [hau, Int.toNat_natCast] at hz
    have KA : ∀ M2, RepMo S P nx M2 → z = -1 → Wm p l e (rmd 5 0 0) s m args below meth c 3 D cA b0 0 0 (vx_MQ below (mQ D cA b0 ad cntM (okM (oNest a w z S P nx))) (mX D cA b0 ad cntM noX) args s 0 0 b0) 19 [(0, aO 40 0), (1, aI u), (2, aI w)] [aI 0, aO 40 0] ad cntM M2 := by
      intro M2 hR2 hz1
      refine w_if_ne C dX7_nest_19 (by omega) (fun h19 => ?_) (fun h19 => ?_)
      · omega
      · refine w_iconst C dX7_nest_22 ?_
        refine w_goto C dX7_nest_23 ?_
        refine w_callV C dX7_nest_40 (c_X7_failsY hl 2 (by omega)) mX7_fails vX7_fails lk_X7_129 (by first | assumption | exact Nat.zero_lt_one | exact Nat.zero_lt_two | exact Nat.one_lt_two) rfl rfl rfl rfl ⟨by decide, by decide, by decide, by decide⟩ (Nat.le_of_ble_eq_true rfl) (fun _ _ h => h.elim) ⟨by decide, by decide⟩ (fun r_ MF q40 => ?_)
        obtain ⟨kF, kT, rfl⟩ := q40
        have hRF := hR2.fr kF.fr
        refine w_if_eq_n C dX7_nest_43 (by omega) (by decide) ?_
        refine w_iconst C dX7_nest_46 ?_
        refine w_iret C hr dX7_nest_47 rfl (okM_no (i := 2) (v := 0) (by unfold oNest; rw [hau, if_neg (fun q => q y1), if_pos hz1]) (by decide) rfl kT hRF) (by decide) (by decide)
    refine w_callV C dX7_nest_16 (c_X7_isNested hl hI hC hnx hR u (by omega) w hw) mX7_isNested vX7_isNested lk_X7_207 (by first | assumption | exact Nat.zero_lt_one | exact Nat.zero_lt_two | exact Nat.one_lt_two) rfl rfl rfl rfl ⟨by decide, by decide, by decide, by decide⟩ (Nat.le_of_ble_eq_true rfl) (fun _ _ h => h.elim) ⟨by decide, by decide⟩ (fun r_ M2 q16 => ?_)
    obtain ⟨kN, kA⟩ := q16
    have hR2 := hR.fr kN.fr
    have d17 : M2.1 40 0 17 = P.length := hR2.1.2.2.2.2.2.2.1
    rcases kA with ⟨rfl, kA⟩ | ⟨s9, rfl, k1, kA, k2, k3, k4, k5⟩
    · exact KA M2 hR2 (hz.uniq kA)
    have hz1 := hz.uniq kA
    have hfr : reasonS S P u (s9 % 4) w ((s9 / 4 / 12 : Nat) : Int) ((s9 / 4 % 12 : Nat) : Int) = 45 := (by rcases kA with ⟨q1, -⟩ | ⟨s8, q0, q1, q2, -⟩; omega; rw [show s9 = s8 by omega]; exact q2)
    refine w_if_ne C dX7_nest_19 (by omega) (fun h19 => ?_) (fun h19 => ?_)
    · refine w_aload_n C dX7_nest_26 rfl ?_
      refine g_X7_112 C dX7_nest_27 (by first | assumption | exact Nat.zero_lt_one | exact Nat.zero_lt_two | exact Nat.one_lt_two) ?_
      refine w_bipush (v := 40) C dX7_nest_30 rfl ?_
      refine w_icmp_ne C dX7_nest_32 (by omega) (by omega) (fun h32 => ?_) (fun h32 => ?_)
      · refine w_iconst C dX7_nest_39 ?_
        refine w_callV C dX7_nest_40 (c_X7_failsN hl 0 (by omega)) mX7_fails vX7_fails lk_X7_129 (by first | assumption | exact Nat.zero_lt_one | exact Nat.zero_lt_two | exact Nat.one_lt_two) rfl rfl rfl rfl ⟨by decide, by decide, by decide, by decide⟩ (Nat.le_of_ble_eq_true rfl) (fun _ _ h => h.elim) ⟨by decide, by decide⟩ (fun r_ MF q40 => ?_)
        obtain ⟨kF, kT, rfl⟩ := q40
        have hRF := hR2.fr kF.fr
        refine w_if_eq_y C dX7_nest_43 (by omega) (by decide) ?_
        refine w_aload_n C dX7_nest_48 rfl ?_
        refine w_iload_n C dX7_nest_49 rfl ?_
        refine w_aload_n C dX7_nest_50 rfl ?_
        refine g_X7_204 C dX7_nest_51 (by first | assumption | exact Nat.zero_lt_one | exact Nat.zero_lt_two | exact Nat.one_lt_two) ?_
        refine Wm.top (v' := aI ((s9 % 4 : Nat) : Int)) (congrArg aI ((kF.1 40 39 (by omega)).trans k4)) ?_
        refine w_aload_n C dX7_nest_54 rfl ?_
        refine g_X7_198 C dX7_nest_55 (by first | assumption | exact Nat.zero_lt_one | exact Nat.zero_lt_two | exact Nat.one_lt_two) ?_
        refine Wm.top (v' := aI ((s9 / 4 / 12 : Nat) : Int)) (congrArg aI ((kF.1 40 37 (by omega)).trans k2)) ?_
        refine w_aload_n C dX7_nest_58 rfl ?_
        refine g_X7_201 C dX7_nest_59 (by first | assumption | exact Nat.zero_lt_one | exact Nat.zero_lt_two | exact Nat.one_lt_two) ?_
        refine Wm.top (v' := aI ((s9 / 4 % 12 : Nat) : Int)) (congrArg aI ((kF.1 40 38 (by omega)).trans k3)) ?_
        refine w_iload_n C dX7_nest_62 rfl ?_
        refine w_callV C dX7_nest_63 (c_X7_puts hl hI (by omega) hRF u (by omega) (s9 % 4) w (by omega) hw (s9 / 4 / 12) (s9 / 4 % 12) hfr (k5.kF kF)) mX7_puts vX7_puts lk_X7_194 (by first | assumption | exact Nat.zero_lt_one | exact Nat.zero_lt_two | exact Nat.one_lt_two) rfl rfl rfl rfl ⟨by decide, by decide, by decide, by decide⟩ (Nat.le_of_ble_eq_true rfl) (fun _ _ h => h.elim) ⟨by decide, by decide⟩ (fun r_ M3 q63 => ?_)
        obtain ⟨hR3, hF3, rfl⟩ := q63
        refine w_iret C hr dX7_nest_66 rfl (okM_of (v := (nx : Int)) (S' := S) (P' := P ++ [(nx, u, s9 % 4, s9 / 4 / 12, s9 / 4 % 12, w)]) (nx' := nx + 1) (by unfold oNest; rw [hau, if_neg (fun q => q y1), if_neg (by omega), if_neg (by omega), Int.toNat_natCast, hz1, Int.toNat_natCast]) rfl ((hF3.1 0 (by decide) (by decide)).trans kT) hR3) (by decide) (by decide)
      · refine w_iconst C dX7_nest_35 ?_
        refine w_goto C dX7_nest_36 ?_
        refine w_callV C dX7_nest_40 (c_X7_failsY hl 3 (by omega)) mX7_fails vX7_fails lk_X7_129 (by first | assumption | exact Nat.zero_lt_one | exact Nat.zero_lt_two | exact Nat.one_lt_two) rfl rfl rfl rfl ⟨by decide, by decide, by decide, by decide⟩ (Nat.le_of_ble_eq_true rfl) (fun _ _ h => h.elim) ⟨by decide, by decide⟩ (fun r_ MF q40 => ?_)
        obtain ⟨kF, kT, rfl⟩ := q40
        have hRF := hR2.fr kF.fr
        refine w_if_eq_n C dX7_nest_43 (by omega) (by decide) ?_
        refine w_iconst C dX7_nest_46 ?_
        refine w_iret C hr dX7_nest_47 rfl (okM_no (i := 3) (v := 0) (by unfold oNest; rw [hau, if_neg (fun q => q y1), if_neg (by omega), if_pos (by omega)]) (by decide) rfl kT hRF) (by decide) (by decide)
    · omega
  refine w_aload_n C dX7_nest_0 rfl ?_
  refine w_aload_n C dX7_nest_1 rfl ?_
  refine w_iload_n C dX7_nest_2 rfl ?_
  refine w_callV C dX7_nest_3 (c_X7_isShape hl hI.1 hR a ha) mX7_isShape vX7_isShape lk_X7_146 (by first | assumption | exact Nat.zero_lt_one | exact Nat.zero_lt_two | exact Nat.one_lt_two) rfl rfl rfl rfl ⟨by decide, by decide, by decide, by decide⟩ (Nat.le_of_ble_eq_true rfl) (fun _ _ h => h.elim) ⟨by decide, by decide⟩ (fun r_ M_ q3 => ?_)
  obtain ⟨rfl, rfl⟩ := q3
  refine w_if_ne C dX7_nest_6 (by omega) (fun h6 => ?_) (fun h6 => ?_)
  · have y1 := b2_n0 h6
    obtain ⟨u, rfl⟩ := Int.eq_ofNat_of_zero_le y1.1
    refine w_aload_n C dX7_nest_13 rfl ?_
    refine w_iload_n C dX7_nest_14 rfl ?_
    refine w_iload_n C dX7_nest_15 rfl ?_
    exact KN u rfl y1 _ rfl
  · have y1 := b2_is0 (Decidable.not_not.mp h6)
    refine w_iconst C dX7_nest_9 ?_
    refine w_goto C dX7_nest_10 ?_
    refine w_callV C dX7_nest_40 (c_X7_failsY hl 1 (by omega)) mX7_fails vX7_fails lk_X7_129 (by first | assumption | exact Nat.zero_lt_one | exact Nat.zero_lt_two | exact Nat.one_lt_two) rfl rfl rfl rfl ⟨by decide, by decide, by decide, by decide⟩ (Nat.le_of_ble_eq_true rfl) (fun _ _ h => h.elim) ⟨by decide, by decide⟩ (fun r_ MF q40 => ?_)
    obtain ⟨kF, kT, rfl⟩ := q40
    have hRF := hR.fr kF.fr
    refine w_if_eq_n C dX7_nest_43 (by omega) (by decide) ?_
    refine w_iconst C dX7_nest_46 ?_
    refine w_iret C hr dX7_nest_47 rfl (okM_no (i := 1) (v := 0) (by unfold oNest; rw [if_pos y1]) (by decide) rfl kT hRF) (by decide) (by decide)
end Mo
