-- MODEL
/-! the model: styles, the roll, reads of the stock -/
theorem tak_le {S : Sg} (hG : GInv S) (y : Nat) : takS S y ≤ 64 := by
  have h : takS S y ≤ nsS S * 8 := sumN_le fun j _ => cp_le hG y j
  have := hG.2.2.2.2.2.1
  omega
theorem RepMo.part {S : Sg} {P : List Pc} {nx : Nat} {M : Mem} {u v : Nat} {c : Int} (h : RepMo S P nx M) (hG : GInv S) (hu : u < 4) (hv : v < 8) (hc : 0 ≤ c) (h0 : ctS S u v = 0) (hm : mdS S u = 0) : RepMo (up3 S 16 u v c.toNat) P nx (uI M 61 0 (8 * u + v) c) := by
  obtain ⟨⟨m1, m2, m3, m4, m5, m6, m7, m8, m9, m10, m11⟩, n2, n3, n4, n5, n6, n7⟩ := h
  have heS : ∀ j, eS (up3 S 16 u v c.toNat) j = eS S j := fun j => eS_part hm j
  have hcut : cutS (up3 S 16 u v c.toNat) = cutS S := sumN_cg fun j _ => heS j
  refine ⟨⟨m1, m2, m3, m4, m5, m6, m7, m8, m9, m10, by rw [hcut]; exact m11⟩, n2, fun j hj => ?_, n4, RepMM.cg (S := S) (fun p _ => ⟨rfl, rfl, rfl, rfl⟩) (fun _ => rfl) (n5.fr fun k hk j => by rw [uI_get, if_neg (by omega)]), fun y j hy hj => ?_, n7⟩
  · obtain ⟨a1, a2, a3, a4, a5, a6, a7, a8, a9⟩ := n3 j hj
    exact ⟨a1, a2, a3, a4, a5, a6, by rw [heS]; exact a7, a8, a9⟩
  · rw [uI_get]
    by_cases hyj : y = u ∧ j = v
    · rw [if_pos (by omega), hyj.1, hyj.2, show ctS (up3 S 16 u v c.toNat) u v = c.toNat from up3_eq _ _ _ _ _]
      omega
    · rw [if_neg (by omega), show ctS (up3 S 16 u v c.toNat) y j = ctS S y j from up3_ne _ _ (by omega)]
      exact n6 y j hy hj
section Mo
variable {l : Launch} {b0 : Nat → Prop} {ad : Ads} {M : Mem}
theorem c_X7_takenBy (hl : l.stackTraces = false) {S : Sg} {P : List Pc} {nx : Nat} (hG : GInv S) (hR : RepMo S P nx M) (y : Nat) (hy : y < 4) : Con l b0 yX7_takenBy cX7_takenBy 4 (some .int) 1 0 0 [aO 40 0, aI y] ad cntM M (fun r M' => M' = M ∧ r = some (aI (takS S y : Nat))) noX := by
  have e7 := hR.1.2.2.2.2.2.1
  have g6 := hG.2.2.2.2.2.1
  refine Con.of hl pl_X7 (Nat.le_of_ble_eq_true rfl) ?_
  intro D cA p e s m args below meth c C hr
  have loop : ∀ (b n : Nat), n + b = nsS S → Wm p l e (rmd 1 0 0) s m args below meth c 4 D cA b0 0 0 (vx_MQ below (mQ D cA b0 ad cntM (fun r M' => M' = M ∧ r = some (aI (takS S y : Nat)))) (mX D cA b0 ad cntM noX) args s 0 0 b0) 4 [(0, aO 40 0), (1, aI y), (2, aI (sumN (fun j => ctS S y j * pppS S j) n : Nat)), (3, aI n)] [] ad cntM M := by
    intro b
    induction b with
    | zero =>
      intro n hn
      refine w_iload_n C dX7_takenBy_4 rfl ?_
      refine w_aload_n C dX7_takenBy_5 rfl ?_
      refine g_X7_143 C dX7_takenBy_6 (by first | assumption | exact Nat.zero_lt_one | exact Nat.zero_lt_two | exact Nat.one_lt_two) ?_
      refine w_icmp_ge C dX7_takenBy_9 (by omega) (by omega) (fun h9 => ?_) (fun h9 => ?_)
      · refine w_iload_n C dX7_takenBy_47 rfl ?_
        refine w_iret C hr dX7_takenBy_48 rfl (⟨rfl, by unfold takS; rw [show nsS S = n by omega]⟩) (by decide) (by decide)
      · omega
    | succ b ih =>
      intro n hn
      have c1 := hR.2.2.2.2.2.1 y n hy (by omega)
      have p1 := (hR.2.2.1 n (by omega)).2.1
      have p2 := (hG.2.2.2.2.2.2.2.2.2.1 n).1
      have c4 := hG.2.2.2.2.2.2.2.2.2.2.1 y n
      have e9 : sumN (fun j => ctS S y j * pppS S j) (n + 1) = sumN (fun j => ctS S y j * pppS S j) n + ctS S y n * pppS S n := rfl
      have e8 : pppS S n = if paS S n = 1 then 2 else 1 := rfl
      refine w_iload_n C dX7_takenBy_4 rfl ?_
      refine w_aload_n C dX7_takenBy_5 rfl ?_
      refine g_X7_143 C dX7_takenBy_6 (by first | assumption | exact Nat.zero_lt_one | exact Nat.zero_lt_two | exact Nat.one_lt_two) ?_
      refine w_icmp_ge C dX7_takenBy_9 (by omega) (by omega) (fun h9 => ?_) (fun h9 => ?_)
      · omega
      · refine w_iload_n C dX7_takenBy_12 rfl ?_
        refine w_aload_n C dX7_takenBy_13 rfl ?_
        refine g_X7_73 C dX7_takenBy_14 (by first | assumption | exact Nat.zero_lt_one | exact Nat.zero_lt_two | exact Nat.one_lt_two) ?_
        refine w_bipush (v := 8) C dX7_takenBy_17 rfl ?_
        refine w_iload_n C dX7_takenBy_19 rfl ?_
        refine w_imul C dX7_takenBy_20 ?_
        refine w_iload_n C dX7_takenBy_21 rfl ?_
        refine w_iadd C dX7_takenBy_22 ?_
        refine w_ialdN (j := 8 * y + n) C dX7_takenBy_23 (by first | assumption | exact Nat.zero_lt_one | exact Nat.zero_lt_two | exact Nat.one_lt_two) IA_61 (by omega) (by omega) ?_
        rw [c1]
        refine w_aload_n C dX7_takenBy_24 rfl ?_
        refine g_X7_21 C dX7_takenBy_25 (by first | assumption | exact Nat.zero_lt_one | exact Nat.zero_lt_two | exact Nat.one_lt_two) ?_
        refine w_iload_n C dX7_takenBy_28 rfl ?_
        refine w_zaldN (j := n) C dX7_takenBy_29 (by first | assumption | exact Nat.zero_lt_one | exact Nat.zero_lt_two | exact Nat.one_lt_two) ZA_42 (by omega) (by omega) ?_
        refine w_if_eq C dX7_takenBy_30 (by omega) (fun h30 => ?_) (fun h30 => ?_)
        · refine w_iconst C dX7_takenBy_37 ?_
          refine w_imul C dX7_takenBy_38 ?_
          refine w_iadd C dX7_takenBy_39 ?_
          refine w_istore_n C dX7_takenBy_40 (by decide) ?_
          refine w_iinc C dX7_takenBy_41 rfl (by decide) ?_
          refine w_goto C dX7_takenBy_44 ?_
          refine Wm.lsub (lv' := [(0, aO 40 0), (1, aI y), (2, aI (sumN (fun j => ctS S y j * pppS S j) (n + 1) : Nat)), (3, aI ((n + 1 : Nat) : Int))]) ⟨rfl, rfl, congrArg (fun z : Int => some (aI z)) ?_, rfl, trivial⟩ (ih (n + 1) (by omega))
          rw [e9, e8]
          first | (rw [if_pos (by omega)]; omega) | (rw [if_neg (by omega)]; omega)
        · refine w_iconst C dX7_takenBy_33 ?_
          refine w_goto C dX7_takenBy_34 ?_
          refine w_imul C dX7_takenBy_38 ?_
          refine w_iadd C dX7_takenBy_39 ?_
          refine w_istore_n C dX7_takenBy_40 (by decide) ?_
          refine w_iinc C dX7_takenBy_41 rfl (by decide) ?_
          refine w_goto C dX7_takenBy_44 ?_
          refine Wm.lsub (lv' := [(0, aO 40 0), (1, aI y), (2, aI (sumN (fun j => ctS S y j * pppS S j) (n + 1) : Nat)), (3, aI ((n + 1 : Nat) : Int))]) ⟨rfl, rfl, congrArg (fun z : Int => some (aI z)) ?_, rfl, trivial⟩ (ih (n + 1) (by omega))
          rw [e9, e8]
          first | (rw [if_pos (by omega)]; omega) | (rw [if_neg (by omega)]; omega)
  refine w_iconst C dX7_takenBy_0 ?_
  refine w_istore_n C dX7_takenBy_1 (by decide) ?_
  refine w_iconst C dX7_takenBy_2 ?_
  refine w_istore_n C dX7_takenBy_3 (by decide) ?_
  exact Wm.lsub (lv' := [(0, aO 40 0), (1, aI y), (2, aI (sumN (fun j => ctS S y j * pppS S j) 0 : Nat)), (3, aI ((0 : Nat) : Int))]) ⟨rfl, rfl, rfl, rfl, trivial⟩ (loop (nsS S) 0 (by omega))
theorem c_X7_piecesFor (hl : l.stackTraces = false) {S : Sg} {P : List Pc} {nx : Nat} (hI : Inv S P nx) (hR : RepMo S P nx M) (a : Int) (ha : -2147483648 ≤ a ∧ a ≤ 2147483647) : Con l b0 yX7_piecesFor cX7_piecesFor 2 (some .int) 3 0 0 [aO 40 0, aI a] ad cntM M (okM (oPiecesFor a S P nx)) noX := by
  have g7 := hI.1.2.2.2.2.2.2.1
  have b1 := b2_01 (0 ≤ a ∧ a < ntS S)
  refine Con.of hl pl_X7 (Nat.le_of_ble_eq_true rfl) ?_
  intro D cA p e s m args below meth c C hr
  refine w_aload_n C dX7_piecesFor_0 rfl ?_
  refine w_aload_n C dX7_piecesFor_1 rfl ?_
  refine w_iload_n C dX7_piecesFor_2 rfl ?_
  refine w_callV C dX7_piecesFor_3 (c_X7_isStyle hl hI.1 hR a ha) mX7_isStyle vX7_isStyle lk_X7_230 (by first | assumption | exact Nat.zero_lt_one | exact Nat.zero_lt_two | exact Nat.one_lt_two) rfl rfl rfl rfl ⟨by decide, by decide, by decide, by decide⟩ (Nat.le_of_ble_eq_true rfl) (fun _ _ h => h.elim) ⟨by decide, by decide⟩ (fun r_ M_ q3 => ?_)
  obtain ⟨rfl, rfl⟩ := q3
  refine w_if_eq C dX7_piecesFor_6 (by omega) (fun h6 => ?_) (fun h6 => ?_)
  · have y1 := b2_is0 h6
    refine w_iconst C dX7_piecesFor_13 ?_
    refine w_callV C dX7_piecesFor_14 (c_X7_failsY hl 1 (by omega)) mX7_fails vX7_fails lk_X7_129 (by first | assumption | exact Nat.zero_lt_one | exact Nat.zero_lt_two | exact Nat.one_lt_two) rfl rfl rfl rfl ⟨by decide, by decide, by decide, by decide⟩ (Nat.le_of_ble_eq_true rfl) (fun _ _ h => h.elim) ⟨by decide, by decide⟩ (fun r_ MF q14 => ?_)
    obtain ⟨kF, kT, rfl⟩ := q14
    have hRF := hR.fr kF.fr
    refine w_if_eq_n C dX7_piecesFor_17 (by omega) (by decide) ?_
    refine w_iconst C dX7_piecesFor_20 ?_
    refine w_goto C dX7_piecesFor_21 ?_
    refine w_iret C hr dX7_piecesFor_29 rfl (by first | exact okM_no (i := 1) (v := 0) (by unfold oPiecesFor; rw [if_pos y1]) (by decide) rfl kT hRF | exact okM_of (by unfold oPiecesFor; rw [if_neg (fun q => q y1), Int.toNat_natCast]) rfl kT hRF) (by decide) (by decide)
  · have y1 := b2_n0 h6
    obtain ⟨u, rfl⟩ := Int.eq_ofNat_of_zero_le y1.1
    refine w_iconst C dX7_piecesFor_9 ?_
    refine w_goto C dX7_piecesFor_10 ?_
    refine w_callV C dX7_piecesFor_14 (c_X7_failsN hl 0 (by omega)) mX7_fails vX7_fails lk_X7_129 (by first | assumption | exact Nat.zero_lt_one | exact Nat.zero_lt_two | exact Nat.one_lt_two) rfl rfl rfl rfl ⟨by decide, by decide, by decide, by decide⟩ (Nat.le_of_ble_eq_true rfl) (fun _ _ h => h.elim) ⟨by decide, by decide⟩ (fun r_ MF q14 => ?_)
    obtain ⟨kF, kT, rfl⟩ := q14
    have hRF := hR.fr kF.fr
    refine w_if_eq_y C dX7_piecesFor_17 (by omega) (by decide) ?_
    refine w_aload_n C dX7_piecesFor_24 rfl ?_
    refine w_iload_n C dX7_piecesFor_25 rfl ?_
    refine w_callV C dX7_piecesFor_26 (c_X7_takenBy hl hI.1 hRF u (by omega)) mX7_takenBy vX7_takenBy lk_X7_233 (by first | assumption | exact Nat.zero_lt_one | exact Nat.zero_lt_two | exact Nat.one_lt_two) rfl rfl rfl rfl ⟨by decide, by decide, by decide, by decide⟩ (Nat.le_of_ble_eq_true rfl) (fun _ _ h => h.elim) ⟨by decide, by decide⟩ (fun r_ M_ q26 => ?_)
    obtain ⟨rfl, rfl⟩ := q26
    refine w_iret C hr dX7_piecesFor_29 rfl (by first | exact okM_no (i := 1) (v := 0) (by unfold oPiecesFor; rw [if_pos y1]) (by decide) rfl kT hRF | exact okM_of (by unfold oPiecesFor; rw [if_neg (fun q => q y1), Int.toNat_natCast]) rfl kT hRF) (by decide) (by decide)
theorem c_X7_made (hl : l.stackTraces = false) {S : Sg} {P : List Pc} {nx : Nat} (hI : Inv S P nx) (hR : RepMo S P nx M) (a : Int) (ha : -2147483648 ≤ a ∧ a ≤ 2147483647) : Con l b0 yX7_made cX7_made 2 (some .int) 3 0 0 [aO 40 0, aI a] ad cntM M (okM (oMade a S P nx)) noX := by
  have g7 := hI.1.2.2.2.2.2.2.1
  have b1 := b2_01 (0 ≤ a ∧ a < ntS S)
  refine Con.of hl pl_X7 (Nat.le_of_ble_eq_true rfl) ?_
  intro D cA p e s m args below meth c C hr
  refine w_aload_n C dX7_made_0 rfl ?_
  refine w_aload_n C dX7_made_1 rfl ?_
  refine w_iload_n C dX7_made_2 rfl ?_
  refine w_callV C dX7_made_3 (c_X7_isStyle hl hI.1 hR a ha) mX7_isStyle vX7_isStyle lk_X7_230 (by first | assumption | exact Nat.zero_lt_one | exact Nat.zero_lt_two | exact Nat.one_lt_two) rfl rfl rfl rfl ⟨by decide, by decide, by decide, by decide⟩ (Nat.le_of_ble_eq_true rfl) (fun _ _ h => h.elim) ⟨by decide, by decide⟩ (fun r_ M_ q3 => ?_)
  obtain ⟨rfl, rfl⟩ := q3
  refine w_if_eq C dX7_made_6 (by omega) (fun h6 => ?_) (fun h6 => ?_)
  · have y1 := b2_is0 h6
    refine w_iconst C dX7_made_13 ?_
    refine w_callV C dX7_made_14 (c_X7_failsY hl 1 (by omega)) mX7_fails vX7_fails lk_X7_129 (by first | assumption | exact Nat.zero_lt_one | exact Nat.zero_lt_two | exact Nat.one_lt_two) rfl rfl rfl rfl ⟨by decide, by decide, by decide, by decide⟩ (Nat.le_of_ble_eq_true rfl) (fun _ _ h => h.elim) ⟨by decide, by decide⟩ (fun r_ MF q14 => ?_)
    obtain ⟨kF, kT, rfl⟩ := q14
    have hRF := hR.fr kF.fr
    refine w_if_eq_n C dX7_made_17 (by omega) (by decide) ?_
    refine w_iconst C dX7_made_20 ?_
    refine w_goto C dX7_made_21 ?_
    refine w_iret C hr dX7_made_30 rfl (by first | exact okM_no (i := 1) (v := 0) (by unfold oMade; rw [if_pos y1]) (by decide) rfl kT hRF | exact okM_of (by unfold oMade; rw [if_neg (fun q => q y1), Int.toNat_natCast]) (congrArg (fun z : Int => some (aI z)) (hRF.2.2.2.2.2.2 u (by omega))) kT hRF) (by decide) (by decide)
  · have y1 := b2_n0 h6
    obtain ⟨u, rfl⟩ := Int.eq_ofNat_of_zero_le y1.1
    refine w_iconst C dX7_made_9 ?_
    refine w_goto C dX7_made_10 ?_
    refine w_callV C dX7_made_14 (c_X7_failsN hl 0 (by omega)) mX7_fails vX7_fails lk_X7_129 (by first | assumption | exact Nat.zero_lt_one | exact Nat.zero_lt_two | exact Nat.one_lt_two) rfl rfl rfl rfl ⟨by decide, by decide, by decide, by decide⟩ (Nat.le_of_ble_eq_true rfl) (fun _ _ h => h.elim) ⟨by decide, by decide⟩ (fun r_ MF q14 => ?_)
    obtain ⟨kF, kT, rfl⟩ := q14
    have hRF := hR.fr kF.fr
    refine w_if_eq_y C dX7_made_17 (by omega) (by decide) ?_
    refine w_aload_n C dX7_made_24 rfl ?_
    refine g_X7_76 C dX7_made_25 (by first | assumption | exact Nat.zero_lt_one | exact Nat.zero_lt_two | exact Nat.one_lt_two) ?_
    refine w_iload_n C dX7_made_28 rfl ?_
    refine w_ialdN (j := u) C dX7_made_29 (by first | assumption | exact Nat.zero_lt_one | exact Nat.zero_lt_two | exact Nat.one_lt_two) IA_62 (by omega) (by omega) ?_
    refine w_iret C hr dX7_made_30 rfl (by first | exact okM_no (i := 1) (v := 0) (by unfold oMade; rw [if_pos y1]) (by decide) rfl kT hRF | exact okM_of (by unfold oMade; rw [if_neg (fun q => q y1), Int.toNat_natCast]) (congrArg (fun z : Int => some (aI z)) (hRF.2.2.2.2.2.2 u (by omega))) kT hRF) (by decide) (by decide)
theorem c_X7_pieces (hl : l.stackTraces = false) {S : Sg} {P : List Pc} {nx : Nat} (hI : Inv S P nx) (hR : RepMo S P nx M) (a : Int) (ha : -2147483648 ≤ a ∧ a ≤ 2147483647) (w : Nat) (hw : w ≤ 1) : Con l b0 yX7_pieces cX7_pieces 3 (some .int) 3 0 0 [aO 40 0, aI a, aI w] ad cntM M (okM (oPieces a w S P nx)) noX := by
  have g6 := hI.1.2.2.2.2.2.1
  have b1 := b2_01 (0 ≤ a ∧ a < nsS S)
  refine Con.of hl pl_X7 (Nat.le_of_ble_eq_true rfl) ?_
  intro D cA p e s m args below meth c C hr
  refine w_aload_n C dX7_pieces_0 rfl ?_
  refine w_aload_n C dX7_pieces_1 rfl ?_
  refine w_iload_n C dX7_pieces_2 rfl ?_
  refine w_callV C dX7_pieces_3 (c_X7_isShape hl hI.1 hR a ha) mX7_isShape vX7_isShape lk_X7_146 (by first | assumption | exact Nat.zero_lt_one | exact Nat.zero_lt_two | exact Nat.one_lt_two) rfl rfl rfl rfl ⟨by decide, by decide, by decide, by decide⟩ (Nat.le_of_ble_eq_true rfl) (fun _ _ h => h.elim) ⟨by decide, by decide⟩ (fun r_ M_ q3 => ?_)
  obtain ⟨rfl, rfl⟩ := q3
  refine w_if_ne C dX7_pieces_6 (by omega) (fun h6 => ?_) (fun h6 => ?_)
  · have y1 := b2_n0 h6
    obtain ⟨u, rfl⟩ := Int.eq_ofNat_of_zero_le y1.1
    have p1 := (hR.2.2.1 u (by omega)).2.1
    have p2 := (hI.1.2.2.2.2.2.2.2.2.2.1 u).1
    refine w_iload_n C dX7_pieces_13 rfl ?_
    refine w_if_eq C dX7_pieces_14 (by omega) (fun h14 => ?_) (fun h14 => ?_)
    · refine w_iconst C dX7_pieces_30 ?_
      refine w_callV C dX7_pieces_31 (c_X7_failsN hl 0 (by omega)) mX7_fails vX7_fails lk_X7_129 (by first | assumption | exact Nat.zero_lt_one | exact Nat.zero_lt_two | exact Nat.one_lt_two) rfl rfl rfl rfl ⟨by decide, by decide, by decide, by decide⟩ (Nat.le_of_ble_eq_true rfl) (fun _ _ h => h.elim) ⟨by decide, by decide⟩ (fun r_ MF q31 => ?_)
      obtain ⟨kF, kT, rfl⟩ := q31
      have hRF := hR.fr kF.fr
      refine w_if_eq_y C dX7_pieces_34 (by omega) (by decide) ?_
      refine w_aload_n C dX7_pieces_41 rfl ?_
      refine g_X7_43 C dX7_pieces_42 (by first | assumption | exact Nat.zero_lt_one | exact Nat.zero_lt_two | exact Nat.one_lt_two) ?_
      refine w_iconst C dX7_pieces_45 ?_
      refine w_iload_n C dX7_pieces_46 rfl ?_
      refine w_imul C dX7_pieces_47 ?_
      refine w_iload_n C dX7_pieces_48 rfl ?_
      refine w_if_eq C dX7_pieces_49 (by omega) (fun h49 => ?_) (fun h49 => ?_)
      · refine w_iconst C dX7_pieces_56 ?_
        refine w_iadd C dX7_pieces_57 ?_
        refine w_ialdN (j := 2 * u + w) C dX7_pieces_58 (by first | assumption | exact Nat.zero_lt_one | exact Nat.zero_lt_two | exact Nat.one_lt_two) IA_52 (by omega) (by omega) ?_
        refine w_iret C hr dX7_pieces_59 rfl (by
            first
            | exact okM_no (i := 1) (v := 0) (by unfold oPieces; rw [if_pos y1]) (by decide) rfl kT hRF
            | exact okM_no (i := 2) (v := 0) (by unfold oPieces; rw [if_neg (fun q => q y1), Int.toNat_natCast, if_pos (by omega)]) (by decide) rfl kT hRF
            | (rcases (show w = 0 ∨ w = 1 by omega) with rfl | rfl
               · exact okM_of (by unfold oPieces; rw [if_neg (fun q => q y1), Int.toNat_natCast, if_neg (by omega)]) (congrArg (fun z : Int => some (aI z)) (hRF.2.2.1 u (by omega)).2.2.2.2.2.2.2.1) kT hRF
               · exact okM_of (by unfold oPieces; rw [if_neg (fun q => q y1), Int.toNat_natCast, if_neg (by omega)]) (congrArg (fun z : Int => some (aI z)) (hRF.2.2.1 u (by omega)).2.2.2.2.2.2.2.2) kT hRF)) (by decide) (by decide)
      · refine w_iconst C dX7_pieces_52 ?_
        refine w_goto C dX7_pieces_53 ?_
        refine w_iadd C dX7_pieces_57 ?_
        refine w_ialdN (j := 2 * u + w) C dX7_pieces_58 (by first | assumption | exact Nat.zero_lt_one | exact Nat.zero_lt_two | exact Nat.one_lt_two) IA_52 (by omega) (by omega) ?_
        refine w_iret C hr dX7_pieces_59 rfl (by
            first
            | exact okM_no (i := 1) (v := 0) (by unfold oPieces; rw [if_pos y1]) (by decide) rfl kT hRF
            | exact okM_no (i := 2) (v := 0) (by unfold oPieces; rw [if_neg (fun q => q y1), Int.toNat_natCast, if_pos (by omega)]) (by decide) rfl kT hRF
            | (rcases (show w = 0 ∨ w = 1 by omega) with rfl | rfl
               · exact okM_of (by unfold oPieces; rw [if_neg (fun q => q y1), Int.toNat_natCast, if_neg (by omega)]) (congrArg (fun z : Int => some (aI z)) (hRF.2.2.1 u (by omega)).2.2.2.2.2.2.2.1) kT hRF
               · exact okM_of (by unfold oPieces; rw [if_neg (fun q => q y1), Int.toNat_natCast, if_neg (by omega)]) (congrArg (fun z : Int => some (aI z)) (hRF.2.2.1 u (by omega)).2.2.2.2.2.2.2.2) kT hRF)) (by decide) (by decide)
    · refine w_aload_n C dX7_pieces_17 rfl ?_
      refine g_X7_21 C dX7_pieces_18 (by first | assumption | exact Nat.zero_lt_one | exact Nat.zero_lt_two | exact Nat.one_lt_two) ?_
      refine w_iload_n C dX7_pieces_21 rfl ?_
      refine w_zaldN (j := u) C dX7_pieces_22 (by first | assumption | exact Nat.zero_lt_one | exact Nat.zero_lt_two | exact Nat.one_lt_two) ZA_42 (by omega) (by omega) ?_
      refine w_if_ne C dX7_pieces_23 (by omega) (fun h23 => ?_) (fun h23 => ?_)
      · refine w_iconst C dX7_pieces_30 ?_
        refine w_callV C dX7_pieces_31 (c_X7_failsN hl 0 (by omega)) mX7_fails vX7_fails lk_X7_129 (by first | assumption | exact Nat.zero_lt_one | exact Nat.zero_lt_two | exact Nat.one_lt_two) rfl rfl rfl rfl ⟨by decide, by decide, by decide, by decide⟩ (Nat.le_of_ble_eq_true rfl) (fun _ _ h => h.elim) ⟨by decide, by decide⟩ (fun r_ MF q31 => ?_)
        obtain ⟨kF, kT, rfl⟩ := q31
        have hRF := hR.fr kF.fr
        refine w_if_eq_y C dX7_pieces_34 (by omega) (by decide) ?_
        refine w_aload_n C dX7_pieces_41 rfl ?_
        refine g_X7_43 C dX7_pieces_42 (by first | assumption | exact Nat.zero_lt_one | exact Nat.zero_lt_two | exact Nat.one_lt_two) ?_
        refine w_iconst C dX7_pieces_45 ?_
        refine w_iload_n C dX7_pieces_46 rfl ?_
        refine w_imul C dX7_pieces_47 ?_
        refine w_iload_n C dX7_pieces_48 rfl ?_
        refine w_if_eq C dX7_pieces_49 (by omega) (fun h49 => ?_) (fun h49 => ?_)
        · refine w_iconst C dX7_pieces_56 ?_
          refine w_iadd C dX7_pieces_57 ?_
          refine w_ialdN (j := 2 * u + w) C dX7_pieces_58 (by first | assumption | exact Nat.zero_lt_one | exact Nat.zero_lt_two | exact Nat.one_lt_two) IA_52 (by omega) (by omega) ?_
          refine w_iret C hr dX7_pieces_59 rfl (by
              first
              | exact okM_no (i := 1) (v := 0) (by unfold oPieces; rw [if_pos y1]) (by decide) rfl kT hRF
              | exact okM_no (i := 2) (v := 0) (by unfold oPieces; rw [if_neg (fun q => q y1), Int.toNat_natCast, if_pos (by omega)]) (by decide) rfl kT hRF
              | (rcases (show w = 0 ∨ w = 1 by omega) with rfl | rfl
                 · exact okM_of (by unfold oPieces; rw [if_neg (fun q => q y1), Int.toNat_natCast, if_neg (by omega)]) (congrArg (fun z : Int => some (aI z)) (hRF.2.2.1 u (by omega)).2.2.2.2.2.2.2.1) kT hRF
                 · exact okM_of (by unfold oPieces; rw [if_neg (fun q => q y1), Int.toNat_natCast, if_neg (by omega)]) (congrArg (fun z : Int => some (aI z)) (hRF.2.2.1 u (by omega)).2.2.2.2.2.2.2.2) kT hRF)) (by decide) (by decide)
        · refine w_iconst C dX7_pieces_52 ?_
          refine w_goto C dX7_pieces_53 ?_
          refine w_iadd C dX7_pieces_57 ?_
          refine w_ialdN (j := 2 * u + w) C dX7_pieces_58 (by first | assumption | exact Nat.zero_lt_one | exact Nat.zero_lt_two | exact Nat.one_lt_two) IA_52 (by omega) (by omega) ?_
          refine w_iret C hr dX7_pieces_59 rfl (by
              first
              | exact okM_no (i := 1) (v := 0) (by unfold oPieces; rw [if_pos y1]) (by decide) rfl kT hRF
              | exact okM_no (i := 2) (v := 0) (by unfold oPieces; rw [if_neg (fun q => q y1), Int.toNat_natCast, if_pos (by omega)]) (by decide) rfl kT hRF
              | (rcases (show w = 0 ∨ w = 1 by omega) with rfl | rfl
                 · exact okM_of (by unfold oPieces; rw [if_neg (fun q => q y1), Int.toNat_natCast, if_neg (by omega)]) (congrArg (fun z : Int => some (aI z)) (hRF.2.2.1 u (by omega)).2.2.2.2.2.2.2.1) kT hRF
                 · exact okM_of (by unfold oPieces; rw [if_neg (fun q => q y1), Int.toNat_natCast, if_neg (by omega)]) (congrArg (fun z : Int => some (aI z)) (hRF.2.2.1 u (by omega)).2.2.2.2.2.2.2.2) kT hRF)) (by decide) (by decide)
      · refine w_iconst C dX7_pieces_26 ?_
        refine w_goto C dX7_pieces_27 ?_
        refine w_callV C dX7_pieces_31 (c_X7_failsY hl 2 (by omega)) mX7_fails vX7_fails lk_X7_129 (by first | assumption | exact Nat.zero_lt_one | exact Nat.zero_lt_two | exact Nat.one_lt_two) rfl rfl rfl rfl ⟨by decide, by decide, by decide, by decide⟩ (Nat.le_of_ble_eq_true rfl) (fun _ _ h => h.elim) ⟨by decide, by decide⟩ (fun r_ MF q31 => ?_)
        obtain ⟨kF, kT, rfl⟩ := q31
        have hRF := hR.fr kF.fr
        refine w_if_eq_n C dX7_pieces_34 (by omega) (by decide) ?_
        refine w_iconst C dX7_pieces_37 ?_
        refine w_goto C dX7_pieces_38 ?_
        refine w_iret C hr dX7_pieces_59 rfl (by
            first
            | exact okM_no (i := 1) (v := 0) (by unfold oPieces; rw [if_pos y1]) (by decide) rfl kT hRF
            | exact okM_no (i := 2) (v := 0) (by unfold oPieces; rw [if_neg (fun q => q y1), Int.toNat_natCast, if_pos (by omega)]) (by decide) rfl kT hRF
            | (rcases (show w = 0 ∨ w = 1 by omega) with rfl | rfl
               · exact okM_of (by unfold oPieces; rw [if_neg (fun q => q y1), Int.toNat_natCast, if_neg (by omega)]) (congrArg (fun z : Int => some (aI z)) (hRF.2.2.1 u (by omega)).2.2.2.2.2.2.2.1) kT hRF
               · exact okM_of (by unfold oPieces; rw [if_neg (fun q => q y1), Int.toNat_natCast, if_neg (by omega)]) (congrArg (fun z : Int => some (aI z)) (hRF.2.2.1 u (by omega)).2.2.2.2.2.2.2.2) kT hRF)) (by decide) (by decide)
  · have y1 := b2_is0 (Decidable.not_not.mp h6)
    refine w_iconst C dX7_pieces_9 ?_
    refine w_goto C dX7_pieces_10 ?_
    refine w_callV C dX7_pieces_31 (c_X7_failsY hl 1 (by omega)) mX7_fails vX7_fails lk_X7_129 (by first | assumption | exact Nat.zero_lt_one | exact Nat.zero_lt_two | exact Nat.one_lt_two) rfl rfl rfl rfl ⟨by decide, by decide, by decide, by decide⟩ (Nat.le_of_ble_eq_true rfl) (fun _ _ h => h.elim) ⟨by decide, by decide⟩ (fun r_ MF q31 => ?_)
    obtain ⟨kF, kT, rfl⟩ := q31
    have hRF := hR.fr kF.fr
    refine w_if_eq_n C dX7_pieces_34 (by omega) (by decide) ?_
    refine w_iconst C dX7_pieces_37 ?_
    refine w_goto C dX7_pieces_38 ?_
    refine w_iret C hr dX7_pieces_59 rfl (by
        first
        | exact okM_no (i := 1) (v := 0) (by unfold oPieces; rw [if_pos y1]) (by decide) rfl kT hRF
        | exact okM_no (i := 2) (v := 0) (by unfold oPieces; rw [if_neg (fun q => q y1), Int.toNat_natCast, if_pos (by omega)]) (by decide) rfl kT hRF
        | (rcases (show w = 0 ∨ w = 1 by omega) with rfl | rfl
           · exact okM_of (by unfold oPieces; rw [if_neg (fun q => q y1), Int.toNat_natCast, if_neg (by omega)]) (congrArg (fun z : Int => some (aI z)) (hRF.2.2.1 u (by omega)).2.2.2.2.2.2.2.1) kT hRF
           · exact okM_of (by unfold oPieces; rw [if_neg (fun q => q y1), Int.toNat_natCast, if_neg (by omega)]) (congrArg (fun z : Int => some (aI z)) (hRF.2.2.1 u (by omega)).2.2.2.2.2.2.2.2) kT hRF)) (by decide) (by decide)
theorem c_X7_roll (hl : l.stackTraces = false) {S : Sg} {P : List Pc} {nx : Nat} (hR : RepMo S P nx M) : Con l b0 yX7_roll cX7_roll 1 (some .int) 1 0 0 [aO 40 0] ad cntM M (okM (oRoll S P nx)) noX := by
  refine Con.of hl pl_X7 (Nat.le_of_ble_eq_true rfl) ?_
  intro D cA p e s m args below meth c C hr
  refine w_aload_n C dX7_roll_0 rfl ?_
  refine w_iconst C dX7_roll_1 ?_
  refine p_X7_109 C dX7_roll_2 (by first | assumption | exact Nat.zero_lt_one | exact Nat.zero_lt_two | exact Nat.one_lt_two) ?_
  refine w_aload_n C dX7_roll_5 rfl ?_
  refine g_X7_254 C dX7_roll_6 (by first | assumption | exact Nat.zero_lt_one | exact Nat.zero_lt_two | exact Nat.one_lt_two) ?_
  refine w_iret C hr dX7_roll_9 rfl (okM_of rfl (congrArg (fun z : Int => some (aI z)) hR.1.2.2.2.2.2.2.2.2.2.1) rfl hR.thr) (by decide) (by decide)
theorem c_X7_cut (hl : l.stackTraces = false) {S : Sg} {P : List Pc} {nx : Nat} (hR : RepMo S P nx M) : Con l b0 yX7_cut cX7_cut 1 (some .long) 1 0 0 [aO 40 0] ad cntM M (fun r M' => RepMo S P nx M' ∧ M'.1 40 0 0 = 0 ∧ r = some (aL (cutS S : Nat))) noX := by
  refine Con.of hl pl_X7 (Nat.le_of_ble_eq_true rfl) ?_
  intro D cA p e s m args below meth c C hr
  refine w_aload_n C dX7_cut_0 rfl ?_
  refine w_iconst C dX7_cut_1 ?_
  refine p_X7_109 C dX7_cut_2 (by first | assumption | exact Nat.zero_lt_one | exact Nat.zero_lt_two | exact Nat.one_lt_two) ?_
  refine w_aload_n C dX7_cut_5 rfl ?_
  refine g_X7_268 C dX7_cut_6 (by first | assumption | exact Nat.zero_lt_one | exact Nat.zero_lt_two | exact Nat.one_lt_two) ?_
  refine w_lret C hr dX7_cut_9 (⟨hR.thr, rfl, congrArg (fun z : Int => some (aL z)) hR.1.2.2.2.2.2.2.2.2.2.2⟩) (by decide) (by decide)
theorem c_X7_addCloth (hl : l.stackTraces = false) {S : Sg} {P : List Pc} {nx : Nat} (hI : Inv S P nx) (hR : RepMo S P nx M) (a : Int) (ha : -2147483648 ≤ a ∧ a ≤ 2147483647) : Con l b0 yX7_addCloth cX7_addCloth 2 (some .int) 2 0 0 [aO 40 0, aI a] ad cntM M (okM (oAddCloth a S P nx)) noX := by
  have e31 := hR.1.2.2.2.2.2.2.2.2.2.1
  have hrl := hI.1.2.2.2.2.2.2.2.2.2.2.2
  have b1 := b2_01 (1 ≤ a ∧ a ≤ 9999)
  refine Con.of hl pl_X7 (Nat.le_of_ble_eq_true rfl) ?_
  intro D cA p e s m args below meth c C hr
  refine w_aload_n C dX7_addCloth_0 rfl ?_
  refine w_iload_n C dX7_addCloth_1 rfl ?_
  refine w_iconst C dX7_addCloth_2 ?_
  refine w_sipush (v := 9999) C dX7_addCloth_3 rfl ?_
  refine w_callS C dX7_addCloth_6 (c_X7_in hl a 1 9999 (by omega) (by omega) (by omega)) mX7_in sX7_in lk_X7_122 rfl rfl ⟨by decide, by decide, by decide, by decide⟩ (Nat.le_of_ble_eq_true rfl) (fun _ _ h => h.elim) ⟨by decide, by decide⟩ (fun r_ M_ q6 => ?_)
  obtain ⟨rfl, rfl⟩ := q6
  refine w_if_eq C dX7_addCloth_9 (by omega) (fun h9 => ?_) (fun h9 => ?_)
  · have y1 := b2_is0 h9
    refine w_iconst C dX7_addCloth_24 ?_
    refine w_goto C dX7_addCloth_25 ?_
    refine w_callV C dX7_addCloth_29 (c_X7_failsY hl 1 (by omega)) mX7_fails vX7_fails lk_X7_129 (by first | assumption | exact Nat.zero_lt_one | exact Nat.zero_lt_two | exact Nat.one_lt_two) rfl rfl rfl rfl ⟨by decide, by decide, by decide, by decide⟩ (Nat.le_of_ble_eq_true rfl) (fun _ _ h => h.elim) ⟨by decide, by decide⟩ (fun r_ MF q29 => ?_)
    obtain ⟨kF, kT, rfl⟩ := q29
    have hRF := hR.fr kF.fr
    refine w_if_eq_n C dX7_addCloth_32 (by omega) (by decide) ?_
    refine w_iconst C dX7_addCloth_35 ?_
    refine w_iret C hr dX7_addCloth_36 rfl (okM_no (i := 1) (v := 0) (by unfold oAddCloth; rw [if_pos (by omega)]) (by decide) rfl kT hRF) (by decide) (by decide)
  · have y1 := b2_n0 h9
    refine w_aload_n C dX7_addCloth_12 rfl ?_
    refine g_X7_254 C dX7_addCloth_13 (by first | assumption | exact Nat.zero_lt_one | exact Nat.zero_lt_two | exact Nat.one_lt_two) ?_
    refine w_iload_n C dX7_addCloth_16 rfl ?_
    refine w_iadd C dX7_addCloth_17 ?_
    refine w_ldcw C dX7_addCloth_18 kc_X7_257 ?_
    refine w_icmp_le C dX7_addCloth_21 (by omega) (by omega) (fun h21 => ?_) (fun h21 => ?_)
    · refine w_iconst C dX7_addCloth_28 ?_
      refine w_callV C dX7_addCloth_29 (c_X7_failsN hl 0 (by omega)) mX7_fails vX7_fails lk_X7_129 (by first | assumption | exact Nat.zero_lt_one | exact Nat.zero_lt_two | exact Nat.one_lt_two) rfl rfl rfl rfl ⟨by decide, by decide, by decide, by decide⟩ (Nat.le_of_ble_eq_true rfl) (fun _ _ h => h.elim) ⟨by decide, by decide⟩ (fun r_ MF q29 => ?_)
      obtain ⟨kF, kT, rfl⟩ := q29
      have hRF := hR.fr kF.fr
      refine w_if_eq_y C dX7_addCloth_32 (by omega) (by decide) ?_
      refine w_aload_n C dX7_addCloth_37 rfl ?_
      refine w_dup C dX7_addCloth_38 rfl ?_
      refine g_X7_254 C dX7_addCloth_39 (by first | assumption | exact Nat.zero_lt_one | exact Nat.zero_lt_two | exact Nat.one_lt_two) ?_
      refine w_iload_n C dX7_addCloth_42 rfl ?_
      refine w_iadd C dX7_addCloth_43 ?_
      refine p_X7_254 C dX7_addCloth_44 (by first | assumption | exact Nat.zero_lt_one | exact Nat.zero_lt_two | exact Nat.one_lt_two) ?_
      refine w_aload_n C dX7_addCloth_47 rfl ?_
      refine g_X7_254 C dX7_addCloth_48 (by first | assumption | exact Nat.zero_lt_one | exact Nat.zero_lt_two | exact Nat.one_lt_two) ?_
      refine w_iret C hr dX7_addCloth_51 rfl (by
          obtain ⟨⟨m1, m2, m3, m4, m5, m6, m7, m8, m9, m10, m11⟩, n2, n3, n4, n5, n6, n7⟩ := hRF
          exact okM_of (v := (rlS S : Int) + a) (S' := up3 S 18 0 0 (rlS S + a.toNat)) (P' := P) (nx' := nx) (by unfold oAddCloth; rw [if_neg (by omega)]) (congrArg (fun z : Int => some (aI z)) (show MF.1 40 0 31 + a = _ by omega)) kT ⟨⟨m1, m2, m3, m4, m5, m6, m7, m8, m9, (show MF.1 40 0 31 + a = ((rlS S + a.toNat : Nat) : Int) by omega), m11⟩, n2, n3, n4, n5.cg (fun p _ => ⟨rfl, rfl, rfl, rfl⟩) (fun _ => rfl), n6, n7⟩) (by decide) (by decide)
    · refine w_iconst C dX7_addCloth_24 ?_
      refine w_goto C dX7_addCloth_25 ?_
      refine w_callV C dX7_addCloth_29 (c_X7_failsY hl 1 (by omega)) mX7_fails vX7_fails lk_X7_129 (by first | assumption | exact Nat.zero_lt_one | exact Nat.zero_lt_two | exact Nat.one_lt_two) rfl rfl rfl rfl ⟨by decide, by decide, by decide, by decide⟩ (Nat.le_of_ble_eq_true rfl) (fun _ _ h => h.elim) ⟨by decide, by decide⟩ (fun r_ MF q29 => ?_)
      obtain ⟨kF, kT, rfl⟩ := q29
      have hRF := hR.fr kF.fr
      refine w_if_eq_n C dX7_addCloth_32 (by omega) (by decide) ?_
      refine w_iconst C dX7_addCloth_35 ?_
      refine w_iret C hr dX7_addCloth_36 rfl (okM_no (i := 1) (v := 0) (by unfold oAddCloth; rw [if_pos (by omega)]) (by decide) rfl kT hRF) (by decide) (by decide)
theorem c_X7_addPart (hl : l.stackTraces = false) {S : Sg} {P : List Pc} {nx : Nat} (hI : Inv S P nx) (hmd : ∀ y, mdS S y < 1000000) (hR : RepMo S P nx M) (a b c' : Int) (ha : -2147483648 ≤ a ∧ a ≤ 2147483647) (hb : -2147483648 ≤ b ∧ b ≤ 2147483647) (hc : -2147483648 ≤ c' ∧ c' ≤ 2147483647) : Con l b0 yX7_addPart cX7_addPart 5 (some .int) 3 0 0 [aO 40 0, aI a, aI b, aI c'] ad cntM M (okM (oAddPart a b c' S P nx)) noX := by
  have g6 := hI.1.2.2.2.2.2.1
  have g7 := hI.1.2.2.2.2.2.2.1
  have b1 := b2_01 (0 ≤ a ∧ a < ntS S)
  have b3 := b2_01 (0 ≤ b ∧ b < nsS S)
  have b4 := b2_01 (1 ≤ c' ∧ c' ≤ 4)
  refine Con.of hl pl_X7 (Nat.le_of_ble_eq_true rfl) ?_
  intro D cA p e s m args below meth c C hr
  refine w_aload_n C dX7_addPart_0 rfl ?_
  refine w_iload_n C dX7_addPart_1 rfl ?_
  refine w_callV C dX7_addPart_2 (c_X7_isStyle hl hI.1 hR a ha) mX7_isStyle vX7_isStyle lk_X7_230 (by first | assumption | exact Nat.zero_lt_one | exact Nat.zero_lt_two | exact Nat.one_lt_two) rfl rfl rfl rfl ⟨by decide, by decide, by decide, by decide⟩ (Nat.le_of_ble_eq_true rfl) (fun _ _ h => h.elim) ⟨by decide, by decide⟩ (fun r_ M_ q2 => ?_)
  obtain ⟨rfl, rfl⟩ := q2
  refine w_if_eq C dX7_addPart_5 (by omega) (fun h5 => ?_) (fun h5 => ?_)
  · have y1 := b2_is0 h5
    refine w_iconst C dX7_addPart_20 ?_
    refine w_istore C dX7_addPart_21 (by decide) ?_
    refine w_aload_n C dX7_addPart_23 rfl ?_
    refine w_iload C dX7_addPart_24 rfl ?_
    refine w_if_ne_n C dX7_addPart_26 (by omega) (by decide) ?_
    refine w_iconst C dX7_addPart_29 ?_
    refine w_goto C dX7_addPart_30 ?_
    refine w_callV C dX7_addPart_74 (c_X7_failsY hl 1 (by omega)) mX7_fails vX7_fails lk_X7_129 (by first | assumption | exact Nat.zero_lt_one | exact Nat.zero_lt_two | exact Nat.one_lt_two) rfl rfl rfl rfl ⟨by decide, by decide, by decide, by decide⟩ (Nat.le_of_ble_eq_true rfl) (fun _ _ h => h.elim) ⟨by decide, by decide⟩ (fun r_ MF q74 => ?_)
    obtain ⟨kF, kT, rfl⟩ := q74
    have hRF := hR.fr kF.fr
    refine w_if_eq_n C dX7_addPart_77 (by omega) (by decide) ?_
    refine w_iconst C dX7_addPart_80 ?_
    refine w_iret C hr dX7_addPart_81 rfl (by
        first
        | exact okM_no (i := 1) (v := 0) (by unfold oAddPart; rw [if_pos (by omega)]) (by decide) rfl kT hRF
        | exact okM_no (i := 2) (v := 0) (by unfold oAddPart; rw [if_neg (by omega), if_pos (by omega)]) (by decide) rfl kT hRF
        | exact okM_no (i := 3) (v := 0) (by unfold oAddPart; rw [if_neg (by omega), if_neg (by omega), Int.toNat_natCast, Int.toNat_natCast, if_pos (by omega)]) (by decide) rfl kT hRF) (by decide) (by decide)
  · have y1 := b2_n0 h5
    refine w_aload_n C dX7_addPart_8 rfl ?_
    refine w_iload_n C dX7_addPart_9 rfl ?_
    refine w_callV C dX7_addPart_10 (c_X7_isShape hl hI.1 hR b hb) mX7_isShape vX7_isShape lk_X7_146 (by first | assumption | exact Nat.zero_lt_one | exact Nat.zero_lt_two | exact Nat.one_lt_two) rfl rfl rfl rfl ⟨by decide, by decide, by decide, by decide⟩ (Nat.le_of_ble_eq_true rfl) (fun _ _ h => h.elim) ⟨by decide, by decide⟩ (fun r_ M_ q10 => ?_)
    obtain ⟨rfl, rfl⟩ := q10
    refine w_if_eq C dX7_addPart_13 (by omega) (fun h13 => ?_) (fun h13 => ?_)
    · have y2 := b2_is0 h13
      refine w_iconst C dX7_addPart_20 ?_
      refine w_istore C dX7_addPart_21 (by decide) ?_
      refine w_aload_n C dX7_addPart_23 rfl ?_
      refine w_iload C dX7_addPart_24 rfl ?_
      refine w_if_ne_n C dX7_addPart_26 (by omega) (by decide) ?_
      refine w_iconst C dX7_addPart_29 ?_
      refine w_goto C dX7_addPart_30 ?_
      refine w_callV C dX7_addPart_74 (c_X7_failsY hl 1 (by omega)) mX7_fails vX7_fails lk_X7_129 (by first | assumption | exact Nat.zero_lt_one | exact Nat.zero_lt_two | exact Nat.one_lt_two) rfl rfl rfl rfl ⟨by decide, by decide, by decide, by decide⟩ (Nat.le_of_ble_eq_true rfl) (fun _ _ h => h.elim) ⟨by decide, by decide⟩ (fun r_ MF q74 => ?_)
      obtain ⟨kF, kT, rfl⟩ := q74
      have hRF := hR.fr kF.fr
      refine w_if_eq_n C dX7_addPart_77 (by omega) (by decide) ?_
      refine w_iconst C dX7_addPart_80 ?_
      refine w_iret C hr dX7_addPart_81 rfl (by
          first
          | exact okM_no (i := 1) (v := 0) (by unfold oAddPart; rw [if_pos (by omega)]) (by decide) rfl kT hRF
          | exact okM_no (i := 2) (v := 0) (by unfold oAddPart; rw [if_neg (by omega), if_pos (by omega)]) (by decide) rfl kT hRF
          | exact okM_no (i := 3) (v := 0) (by unfold oAddPart; rw [if_neg (by omega), if_neg (by omega), Int.toNat_natCast, Int.toNat_natCast, if_pos (by omega)]) (by decide) rfl kT hRF) (by decide) (by decide)
    · have y2 := b2_n0 h13
      refine w_iconst C dX7_addPart_16 ?_
      refine w_goto C dX7_addPart_17 ?_
      refine w_istore C dX7_addPart_21 (by decide) ?_
      refine w_aload_n C dX7_addPart_23 rfl ?_
      refine w_iload C dX7_addPart_24 rfl ?_
      refine w_if_ne_y C dX7_addPart_26 (by omega) (by decide) ?_
      refine w_iload_n C dX7_addPart_33 rfl ?_
      refine w_iconst C dX7_addPart_34 ?_
      refine w_iconst C dX7_addPart_35 ?_
      refine w_callS C dX7_addPart_36 (c_X7_in hl c' 1 4 (by omega) (by omega) (by omega)) mX7_in sX7_in lk_X7_122 rfl rfl ⟨by decide, by decide, by decide, by decide⟩ (Nat.le_of_ble_eq_true rfl) (fun _ _ h => h.elim) ⟨by decide, by decide⟩ (fun r_ M_ q36 => ?_)
      obtain ⟨rfl, rfl⟩ := q36
      refine w_if_ne C dX7_addPart_39 (by omega) (fun h39 => ?_) (fun h39 => ?_)
      · have y3 := b2_n0 h39
        obtain ⟨u, rfl⟩ := Int.eq_ofNat_of_zero_le y1.1
        obtain ⟨v, rfl⟩ := Int.eq_ofNat_of_zero_le y2.1
        have c1 := hR.2.2.2.2.2.1 u v (by omega) (by omega)
        have c4 := hI.1.2.2.2.2.2.2.2.2.2.2.1 u v
        have c5 := hR.2.2.2.2.2.2 u (by omega)
        have c6 := hmd u
        refine w_aload_n C dX7_addPart_46 rfl ?_
        refine g_X7_73 C dX7_addPart_47 (by first | assumption | exact Nat.zero_lt_one | exact Nat.zero_lt_two | exact Nat.one_lt_two) ?_
        refine w_bipush (v := 8) C dX7_addPart_50 rfl ?_
        refine w_iload_n C dX7_addPart_52 rfl ?_
        refine w_imul C dX7_addPart_53 ?_
        refine w_iload_n C dX7_addPart_54 rfl ?_
        refine w_iadd C dX7_addPart_55 ?_
        refine w_ialdN (j := 8 * u + v) C dX7_addPart_56 (by first | assumption | exact Nat.zero_lt_one | exact Nat.zero_lt_two | exact Nat.one_lt_two) IA_61 (by omega) (by omega) ?_
        refine w_if_gt C dX7_addPart_57 (by omega) (fun h57 => ?_) (fun h57 => ?_)
        · refine w_iconst C dX7_addPart_69 ?_
          refine w_goto C dX7_addPart_70 ?_
          refine w_callV C dX7_addPart_74 (c_X7_failsY hl 3 (by omega)) mX7_fails vX7_fails lk_X7_129 (by first | assumption | exact Nat.zero_lt_one | exact Nat.zero_lt_two | exact Nat.one_lt_two) rfl rfl rfl rfl ⟨by decide, by decide, by decide, by decide⟩ (Nat.le_of_ble_eq_true rfl) (fun _ _ h => h.elim) ⟨by decide, by decide⟩ (fun r_ MF q74 => ?_)
          obtain ⟨kF, kT, rfl⟩ := q74
          have hRF := hR.fr kF.fr
          refine w_if_eq_n C dX7_addPart_77 (by omega) (by decide) ?_
          refine w_iconst C dX7_addPart_80 ?_
          refine w_iret C hr dX7_addPart_81 rfl (by
              first
              | exact okM_no (i := 1) (v := 0) (by unfold oAddPart; rw [if_pos (by omega)]) (by decide) rfl kT hRF
              | exact okM_no (i := 2) (v := 0) (by unfold oAddPart; rw [if_neg (by omega), if_pos (by omega)]) (by decide) rfl kT hRF
              | exact okM_no (i := 3) (v := 0) (by unfold oAddPart; rw [if_neg (by omega), if_neg (by omega), Int.toNat_natCast, Int.toNat_natCast, if_pos (by omega)]) (by decide) rfl kT hRF) (by decide) (by decide)
        · refine w_aload_n C dX7_addPart_60 rfl ?_
          refine g_X7_76 C dX7_addPart_61 (by first | assumption | exact Nat.zero_lt_one | exact Nat.zero_lt_two | exact Nat.one_lt_two) ?_
          refine w_iload_n C dX7_addPart_64 rfl ?_
          refine w_ialdN (j := u) C dX7_addPart_65 (by first | assumption | exact Nat.zero_lt_one | exact Nat.zero_lt_two | exact Nat.one_lt_two) IA_62 (by omega) (by omega) ?_
          refine w_if_le C dX7_addPart_66 (by omega) (fun h66 => ?_) (fun h66 => ?_)
          · refine w_iconst C dX7_addPart_73 ?_
            refine w_callV C dX7_addPart_74 (c_X7_failsN hl 0 (by omega)) mX7_fails vX7_fails lk_X7_129 (by first | assumption | exact Nat.zero_lt_one | exact Nat.zero_lt_two | exact Nat.one_lt_two) rfl rfl rfl rfl ⟨by decide, by decide, by decide, by decide⟩ (Nat.le_of_ble_eq_true rfl) (fun _ _ h => h.elim) ⟨by decide, by decide⟩ (fun r_ MF q74 => ?_)
            obtain ⟨kF, kT, rfl⟩ := q74
            have hRF := hR.fr kF.fr
            refine w_if_eq_y C dX7_addPart_77 (by omega) (by decide) ?_
            refine w_aload_n C dX7_addPart_82 rfl ?_
            refine g_X7_73 C dX7_addPart_83 (by first | assumption | exact Nat.zero_lt_one | exact Nat.zero_lt_two | exact Nat.one_lt_two) ?_
            refine w_bipush (v := 8) C dX7_addPart_86 rfl ?_
            refine w_iload_n C dX7_addPart_88 rfl ?_
            refine w_imul C dX7_addPart_89 ?_
            refine w_iload_n C dX7_addPart_90 rfl ?_
            refine w_iadd C dX7_addPart_91 ?_
            refine w_iload_n C dX7_addPart_92 rfl ?_
            refine w_iastN (j := 8 * u + v) C dX7_addPart_93 (by first | assumption | exact Nat.zero_lt_one | exact Nat.zero_lt_two | exact Nat.one_lt_two) IA_61 (by omega) (by omega) ?_
            have hR2 : RepMo (up3 S 16 u v c'.toNat) P nx (uI MF 61 0 (8 * u + v) c') := hRF.part hI.1 (by omega) (by omega) (by omega) (by omega) (by omega)
            refine w_aload_n C dX7_addPart_94 rfl ?_
            refine w_iload_n C dX7_addPart_95 rfl ?_
            refine w_callV C dX7_addPart_96 (c_X7_takenBy hl (hI.1.part u v c'.toNat (by omega)) hR2 u (by omega)) mX7_takenBy vX7_takenBy lk_X7_233 (by first | assumption | exact Nat.zero_lt_one | exact Nat.zero_lt_two | exact Nat.one_lt_two) rfl rfl rfl rfl ⟨by decide, by decide, by decide, by decide⟩ (Nat.le_of_ble_eq_true rfl) (fun _ _ h => h.elim) ⟨by decide, by decide⟩ (fun r_ M_ q96 => ?_)
            obtain ⟨rfl, rfl⟩ := q96
            refine w_iret C hr dX7_addPart_99 rfl (okM_of (S' := up3 S 16 u v c'.toNat) (P' := P) (nx' := nx) (by unfold oAddPart; rw [if_neg (by omega), if_neg (by omega), Int.toNat_natCast, Int.toNat_natCast, if_neg (by omega)]) rfl kT hR2) (by decide) (by decide)
          · refine w_iconst C dX7_addPart_69 ?_
            refine w_goto C dX7_addPart_70 ?_
            refine w_callV C dX7_addPart_74 (c_X7_failsY hl 3 (by omega)) mX7_fails vX7_fails lk_X7_129 (by first | assumption | exact Nat.zero_lt_one | exact Nat.zero_lt_two | exact Nat.one_lt_two) rfl rfl rfl rfl ⟨by decide, by decide, by decide, by decide⟩ (Nat.le_of_ble_eq_true rfl) (fun _ _ h => h.elim) ⟨by decide, by decide⟩ (fun r_ MF q74 => ?_)
            obtain ⟨kF, kT, rfl⟩ := q74
            have hRF := hR.fr kF.fr
            refine w_if_eq_n C dX7_addPart_77 (by omega) (by decide) ?_
            refine w_iconst C dX7_addPart_80 ?_
            refine w_iret C hr dX7_addPart_81 rfl (by
                first
                | exact okM_no (i := 1) (v := 0) (by unfold oAddPart; rw [if_pos (by omega)]) (by decide) rfl kT hRF
                | exact okM_no (i := 2) (v := 0) (by unfold oAddPart; rw [if_neg (by omega), if_pos (by omega)]) (by decide) rfl kT hRF
                | exact okM_no (i := 3) (v := 0) (by unfold oAddPart; rw [if_neg (by omega), if_neg (by omega), Int.toNat_natCast, Int.toNat_natCast, if_pos (by omega)]) (by decide) rfl kT hRF) (by decide) (by decide)
      · have y3 := b2_is0 (Decidable.not_not.mp h39)
        refine w_iconst C dX7_addPart_42 ?_
        refine w_goto C dX7_addPart_43 ?_
        refine w_callV C dX7_addPart_74 (c_X7_failsY hl 2 (by omega)) mX7_fails vX7_fails lk_X7_129 (by first | assumption | exact Nat.zero_lt_one | exact Nat.zero_lt_two | exact Nat.one_lt_two) rfl rfl rfl rfl ⟨by decide, by decide, by decide, by decide⟩ (Nat.le_of_ble_eq_true rfl) (fun _ _ h => h.elim) ⟨by decide, by decide⟩ (fun r_ MF q74 => ?_)
        obtain ⟨kF, kT, rfl⟩ := q74
        have hRF := hR.fr kF.fr
        refine w_if_eq_n C dX7_addPart_77 (by omega) (by decide) ?_
        refine w_iconst C dX7_addPart_80 ?_
        refine w_iret C hr dX7_addPart_81 rfl (by
            first
            | exact okM_no (i := 1) (v := 0) (by unfold oAddPart; rw [if_pos (by omega)]) (by decide) rfl kT hRF
            | exact okM_no (i := 2) (v := 0) (by unfold oAddPart; rw [if_neg (by omega), if_pos (by omega)]) (by decide) rfl kT hRF
            | exact okM_no (i := 3) (v := 0) (by unfold oAddPart; rw [if_neg (by omega), if_neg (by omega), Int.toNat_natCast, Int.toNat_natCast, if_pos (by omega)]) (by decide) rfl kT hRF) (by decide) (by decide)
end Mo
