/-! the room: isSound, what one ply gives -/
abbrev cntS (P : List Pc) (j w : Nat) : Nat := P.countP fun p => pShp p == j && pMir p == w
def perS (S : Sg) (P : List Pc) (j w : Nat) : Nat := if fdS S = 1 then (if paS S j = 1 then cntS P j 0 else if w = 1 then 0 else 2 * cntS P j 0) else cntS P j w
def oIsSound (S : Sg) (P : List Pc) (nx : Nat) : Res := (0, 1, S, P, nx)
theorem perS_le {S : Sg} {P : List Pc} (hP : P.length ≤ 40) (j w : Nat) : perS S P j w ≤ 80 := by
  have h0 : ∀ w, cntS P j w ≤ P.length := fun w => List.countP_le_length
  have h1 := h0 0
  have h2 := h0 w
  unfold perS
  (repeat' split) <;> omega
section Rm
variable {l : Launch} {b0 : Nat → Prop} {ad : Ads} {ns nt : Nat} {M : Mem}
theorem c_X6_perPly (hl : l.stackTraces = false) {S : Sg} {P : List Pc} {nx : Nat} (hI : Inv S P nx) (hns : nsS S ≤ ns) (hR : RepRoom S P nx M) (j : Nat) (hj : j < nsS S) (w : Nat) (hw : w ≤ 1) : Con l b0 yX6_perPly cX6_perPly 4 (some .int) 3 0 0 [aO 0 0, aO 4 j, aI w] ad (cnt ns nt) M (fun r9 M' => M' = M ∧ r9 = some (aI (perS S P j w : Nat))) noX := by
  obtain ⟨hCl, hSh, ⟨f, hM⟩, hSt, hRm, hTr⟩ := hR
  have i4 : inD (cnt ns nt) 4 j := by
    show j < ns
    omega
  have hfd := hI.1.2.2.1
  have hpa := (hI.1.2.2.2.2.2.2.2.2.2.1 j).1
  refine Con.of hl pl_X6 (Nat.le_of_ble_eq_true rfl) ?_
  intro D cA p e s m args below meth c C hr
  refine w_aload_n C dX6_perPly_0 rfl ?_
  refine g_X6_12 C dX6_perPly_1 (by first | assumption | exact Nat.zero_lt_one | exact Nat.zero_lt_two | exact Nat.one_lt_two) ?_
  refine g_X6_83 C dX6_perPly_4 (by first | assumption | exact Nat.zero_lt_one | exact Nat.zero_lt_two | exact Nat.one_lt_two) ?_
  rw [hCl.1.2.2.1]
  refine w_if_ne C dX6_perPly_7 (by omega) (fun h7 => ?_) (fun h7 => ?_)
  · refine w_aload_n C dX6_perPly_20 rfl ?_
    refine g_X6_19 C dX6_perPly_21 (by first | assumption | exact Nat.zero_lt_one | exact Nat.zero_lt_two | exact Nat.one_lt_two) ?_
    refine w_aload_n C dX6_perPly_24 rfl ?_
    refine w_iconst C dX6_perPly_25 ?_
    refine w_callV C dX6_perPly_26 (c_X1_countOf hl (show inD (cnt ns nt) 2 0 from Nat.zero_lt_two) hI.2.2.1 hM hI.2.1 hns i4 0 (by omega)) mX1_countOf vX1_countOf lk_X6_389 (by first | assumption | exact Nat.zero_lt_one | exact Nat.zero_lt_two | exact Nat.one_lt_two) rfl rfl rfl rfl ⟨by decide, by decide, by decide, by decide⟩ (Nat.le_of_ble_eq_true rfl) (fun _ _ h => h.elim) ⟨by decide, by decide⟩ (fun r_ M_ q26 => ?_)
    obtain ⟨rfl, rfl⟩ := q26
    refine w_istore_n C dX6_perPly_29 (by decide) ?_
    refine w_aload_n C dX6_perPly_30 rfl ?_
    refine g_X6_312 C dX6_perPly_31 (by first | assumption | exact Nat.zero_lt_one | exact Nat.zero_lt_two | exact Nat.one_lt_two) ?_
    rw [(hSh j hj).1.2.1]
    refine w_if_eq C dX6_perPly_34 (by omega) (fun h34 => ?_) (fun h34 => ?_)
    · refine w_iload_n C dX6_perPly_39 rfl ?_
      refine w_if_eq C dX6_perPly_40 (by omega) (fun h40 => ?_) (fun h40 => ?_)
      · refine w_iconst C dX6_perPly_47 ?_
        refine w_iload_n C dX6_perPly_48 rfl ?_
        refine w_imul C dX6_perPly_49 ?_
        refine w_iret C hr dX6_perPly_50 rfl (⟨rfl, by unfold perS; rw [if_pos (by omega), if_neg (by omega), if_neg (by omega)]; rfl⟩) (by decide) (by decide)
      · refine w_iconst C dX6_perPly_43 ?_
        refine w_goto C dX6_perPly_44 ?_
        refine w_iret C hr dX6_perPly_50 rfl (⟨rfl, by unfold perS; rw [if_pos (by omega), if_neg (by omega), if_pos (by omega)]; rfl⟩) (by decide) (by decide)
    · refine w_iload_n C dX6_perPly_37 rfl ?_
      refine w_iret C hr dX6_perPly_38 rfl (⟨rfl, by unfold perS; rw [if_pos (by omega), if_pos (by omega)]⟩) (by decide) (by decide)
  · refine w_aload_n C dX6_perPly_10 rfl ?_
    refine g_X6_19 C dX6_perPly_11 (by first | assumption | exact Nat.zero_lt_one | exact Nat.zero_lt_two | exact Nat.one_lt_two) ?_
    refine w_aload_n C dX6_perPly_14 rfl ?_
    refine w_iload_n C dX6_perPly_15 rfl ?_
    refine w_callV C dX6_perPly_16 (c_X1_countOf hl (show inD (cnt ns nt) 2 0 from Nat.zero_lt_two) hI.2.2.1 hM hI.2.1 hns i4 w hw) mX1_countOf vX1_countOf lk_X6_389 (by first | assumption | exact Nat.zero_lt_one | exact Nat.zero_lt_two | exact Nat.one_lt_two) rfl rfl rfl rfl ⟨by decide, by decide, by decide, by decide⟩ (Nat.le_of_ble_eq_true rfl) (fun _ _ h => h.elim) ⟨by decide, by decide⟩ (fun r_ M_ q16 => ?_)
    obtain ⟨rfl, rfl⟩ := q16
    refine w_iret C hr dX6_perPly_19 rfl (⟨rfl, by unfold perS; rw [if_neg (by omega)]⟩) (by decide) (by decide)
theorem c_X6_inGarments (hl : l.stackTraces = false) {S : Sg} {P : List Pc} {nx : Nat} (hI : Inv S P nx) (hmd : ∀ y, mdS S y < 1000000) (hmz : ∀ y, ntS S ≤ y → mdS S y = 0) (hns : nsS S ≤ ns) (hnt : ntS S ≤ nt) (hR : RepRoom S P nx M) (j : Nat) (hj : j < nsS S) : Con l b0 yX6_inGarments cX6_inGarments 6 (some .long) 3 0 0 [aO 0 0, aI j] ad (cnt ns nt) M (fun r9 M' => M' = M ∧ r9 = some (aL (garS S j : Nat))) noX := by
  obtain ⟨hCl, hSh, hM, hSt, hRm, hTr⟩ := hR
  refine Con.of hl pl_X6 (Nat.le_of_ble_eq_true rfl) ?_
  intro D cA p e s m args below meth c C hr
  have loop : ∀ (b n : Nat), n + b = 4 → Wm p l e (rmd 3 0 0) s m args below meth c 6 D cA b0 0 0 (vx_MQ below (mQ D cA b0 ad (cnt ns nt) (fun r9 M' => M' = M ∧ r9 = some (aL (garS S j : Nat)))) (mX D cA b0 ad (cnt ns nt) noX) args s 0 0 b0) 5 [(0, aO 0 0), (1, aI j), (2, aL (sumN (fun y => mdS S y * (ctS S y j * pppS S j)) n : Nat)), (4, aI n)] [] ad (cnt ns nt) M := by
    intro b
    induction b with
    | zero =>
      intro n hn
      refine w_iload C dX6_inGarments_5 rfl ?_
      refine w_aload_n C dX6_inGarments_7 rfl ?_
      refine g_X6_31 C dX6_inGarments_8 (by first | assumption | exact Nat.zero_lt_one | exact Nat.zero_lt_two | exact Nat.one_lt_two) ?_
      refine w_alen C dX6_inGarments_11 (show inD (cnt ns nt) 11 0 from Nat.zero_lt_one) (Or.inr (Or.inr (Or.inr ⟨6, 6, by decide, RA_11⟩))) ?_
      refine w_icmp_ge C dX6_inGarments_12 (by omega) (by omega) (fun h12 => ?_) (fun h12 => ?_)
      · refine w_lload_n C dX6_inGarments_53 rfl ?_
        refine w_lret C hr dX6_inGarments_54 (⟨rfl, by unfold garS; rw [show n = 4 by omega]⟩) (by decide) (by decide)
      · omega
    | succ b ih =>
      intro n hn
      refine w_iload C dX6_inGarments_5 rfl ?_
      refine w_aload_n C dX6_inGarments_7 rfl ?_
      refine g_X6_31 C dX6_inGarments_8 (by first | assumption | exact Nat.zero_lt_one | exact Nat.zero_lt_two | exact Nat.one_lt_two) ?_
      refine w_alen C dX6_inGarments_11 (show inD (cnt ns nt) 11 0 from Nat.zero_lt_one) (Or.inr (Or.inr (Or.inr ⟨6, 6, by decide, RA_11⟩))) ?_
      refine w_icmp_ge C dX6_inGarments_12 (by omega) (by omega) (fun h12 => ?_) (fun h12 => ?_)
      · omega
      · refine w_aload_n C dX6_inGarments_15 rfl ?_
        refine g_X6_31 C dX6_inGarments_16 (by first | assumption | exact Nat.zero_lt_one | exact Nat.zero_lt_two | exact Nat.one_lt_two) ?_
        refine w_iload C dX6_inGarments_19 rfl ?_
        refine w_aald C dX6_inGarments_21 (show inD (cnt ns nt) 11 0 from Nat.zero_lt_one) RA_11 rfl (by omega) ?_
        rw [Int.toNat_natCast, hRm.2.2.2.2 n (by omega)]
        by_cases hy : n < ntS S
        · rw [if_pos hy]
          have i6 : inD (cnt ns nt) 6 n := by
            show n < nt
            omega
          have hm9 := hmd n
          have hc9 := cp_le hI.1 n j
          refine Wm.top (v' := aO 6 n) rfl ?_
          refine w_astore C dX6_inGarments_22 (by decide) ?_
          refine w_aload C dX6_inGarments_24 rfl ?_
          refine w_ifnull C dX6_inGarments_26 (fun h26 => ?_) (fun h26 => ?_)
          · cases h26
          · refine w_lload_n C dX6_inGarments_29 rfl ?_
            refine w_aload C dX6_inGarments_30 rfl ?_
            refine g_X6_288 C dX6_inGarments_32 (by first | assumption | exact Nat.zero_lt_one | exact Nat.zero_lt_two | exact Nat.one_lt_two) ?_
            rw [(hSt n hy).2]
            refine w_i2l C dX6_inGarments_35 (by omega) ?_
            refine w_aload_n C dX6_inGarments_36 rfl ?_
            refine w_aload C dX6_inGarments_37 rfl ?_
            refine w_iload_n C dX6_inGarments_39 rfl ?_
            refine w_callV C dX6_inGarments_40 (c_X6_piecesOfPart hl hI.1 hRm hSh hns i6 (hSt n hy).1 j hj) mX6_piecesOfPart vX6_piecesOfPart lk_X6_308 (by first | assumption | exact Nat.zero_lt_one | exact Nat.zero_lt_two | exact Nat.one_lt_two) rfl rfl rfl rfl ⟨by decide, by decide, by decide, by decide⟩ (Nat.le_of_ble_eq_true rfl) (fun _ _ h => h.elim) ⟨by decide, by decide⟩ (fun r_ M_ q40 => ?_)
            obtain ⟨rfl, rfl⟩ := q40
            refine w_i2l C dX6_inGarments_43 (by omega) ?_
            refine w_lmul C dX6_inGarments_44 ?_
            refine w_ladd C dX6_inGarments_45 ?_
            refine w_lstore_n C dX6_inGarments_46 (by decide) ?_
            refine w_iinc C dX6_inGarments_47 rfl (by decide) ?_
            refine w_goto C dX6_inGarments_50 ?_
            exact Wm.lsub (lv' := [(0, aO 0 0), (1, aI j), (2, aL (sumN (fun y => mdS S y * (ctS S y j * pppS S j)) (n + 1) : Nat)), (4, aI ((n + 1 : Nat) : Int))]) ⟨rfl, rfl, rfl, rfl, trivial⟩ (ih (n + 1) (by omega))
        · rw [if_neg hy]
          refine Wm.top (v' := aR none) rfl ?_
          refine w_astore C dX6_inGarments_22 (by decide) ?_
          refine w_aload C dX6_inGarments_24 rfl ?_
          refine w_ifnull C dX6_inGarments_26 (fun h26 => ?_) (fun h26 => ?_)
          · have e9 : sumN (fun y => mdS S y * (ctS S y j * pppS S j)) (n + 1) = sumN (fun y => mdS S y * (ctS S y j * pppS S j)) n := by
              rw [sumN, hmz n (by omega), Nat.zero_mul, Nat.add_zero]
            refine w_iinc C dX6_inGarments_47 rfl (by decide) ?_
            refine w_goto C dX6_inGarments_50 ?_
            exact Wm.lsub (lv' := [(0, aO 0 0), (1, aI j), (2, aL (sumN (fun y => mdS S y * (ctS S y j * pppS S j)) (n + 1) : Nat)), (4, aI ((n + 1 : Nat) : Int))]) ⟨rfl, rfl, by rw [e9]; rfl, rfl, trivial⟩ (ih (n + 1) (by omega))
          · obtain ⟨_, h26⟩ := h26
            cases h26
  refine w_lconst C dX6_inGarments_0 ?_
  refine w_lstore_n C dX6_inGarments_1 (by decide) ?_
  refine w_iconst C dX6_inGarments_2 ?_
  refine w_istore C dX6_inGarments_3 (by decide) ?_
  exact Wm.lsub (lv' := [(0, aO 0 0), (1, aI j), (2, aL (sumN (fun y => mdS S y * (ctS S y j * pppS S j)) 0 : Nat)), (4, aI ((0 : Nat) : Int))]) ⟨rfl, rfl, rfl, rfl, trivial⟩ (loop 4 0 rfl)
theorem c_X6_isSound (hl : l.stackTraces = false) {S : Sg} {P : List Pc} {nx : Nat} (hI : Inv S P nx) (hE : ∀ j, eS S j < 1000000000) (hmd : ∀ y, mdS S y < 1000000) (hmz : ∀ y, ntS S ≤ y → mdS S y = 0) (hns : nsS S ≤ ns) (hnt : ntS S ≤ nt) (hR : RepRoom S P nx M) : Con l b0 yX6_isSound cX6_isSound 3 (some .boolean) 4 0 0 [aO 0 0] ad (cnt ns nt) M (okR (oIsSound S P nx)) noX := by
  have hR' := hR
  obtain ⟨hCl, hSh, ⟨f, hM⟩, hSt, hRm, hTr⟩ := hR'
  have g6 := hI.1.2.2.2.2.2.1
  refine Con.of hl pl_X6 (Nat.le_of_ble_eq_true rfl) ?_
  intro D cA p e s m args below meth c C hr
  refine w_aload_n C dX6_isSound_0 rfl ?_
  refine g_X6_19 C dX6_isSound_1 (by first | assumption | exact Nat.zero_lt_one | exact Nat.zero_lt_two | exact Nat.one_lt_two) ?_
  refine w_callV C dX6_isSound_4 (c_X1_hasNoOverlap hl hI.1 (show inD (cnt ns nt) 2 0 from Nat.zero_lt_two) hI.2.2.1 hM hI.2.1 hSh hns) mX1_hasNoOverlap vX1_hasNoOverlap lk_X6_442 (by first | assumption | exact Nat.zero_lt_one | exact Nat.zero_lt_two | exact Nat.one_lt_two) rfl rfl rfl rfl ⟨by decide, by decide, by decide, by decide⟩ (Nat.le_of_ble_eq_true rfl) (fun _ _ h => h.elim) ⟨by decide, by decide⟩ (fun r_ M2 q4 => ?_)
  obtain ⟨k1, rfl⟩ := q4
  have hR2 := RepRoom.mt hI.2.2.1 k1 hR
  have hR2' := hR2
  obtain ⟨hCl2, hSh2, hM2, hSt2, hRm2, hTr2⟩ := hR2'
  have hcnt := hRm2.1
  have loop : ∀ (b n : Nat), n + b = nsS S → Wm p l e (rmd 4 0 0) s m args below meth c 3 D cA b0 0 0 (vx_MQ below (mQ D cA b0 ad (cnt ns nt) (okR (oIsSound S P nx))) (mX D cA b0 ad (cnt ns nt) noX) args s 0 0 b0) 14 [(0, aO 0 0), (1, aI n)] [] ad (cnt ns nt) M2 := by
    intro b
    induction b with
    | zero =>
      intro n hn
      refine w_iload_n C dX6_isSound_14 rfl ?_
      refine w_aload_n C dX6_isSound_15 rfl ?_
      refine g_X6_123 C dX6_isSound_16 (by first | assumption | exact Nat.zero_lt_one | exact Nat.zero_lt_two | exact Nat.one_lt_two) ?_
      rw [hcnt]
      refine w_icmp_ge C dX6_isSound_19 (by omega) (by omega) (fun h19 => ?_) (fun h19 => ?_)
      · refine w_iconst C dX6_isSound_64 ?_
        refine w_iret C hr dX6_isSound_65 (by first | exact narrow_z (b2_01 _) | exact narrow_z (by omega)) (okR_of (S' := S) (P' := P) (nx' := nx) rfl rfl hR2) (by decide) (by decide)
      · omega
    | succ b ih =>
      intro n hn
      have i4 : inD (cnt ns nt) 4 n := by
        show n < ns
        omega
      obtain ⟨s1, ⟨s2, s3, s4⟩, s5⟩ := hSh2 n (by omega)
      obtain ⟨p1, p2, p3, p4, p5, p6, p7, p8, p9⟩ := hI.1.2.2.2.2.2.2.2.2.2.1 n
      have hEn := hE n
      refine w_iload_n C dX6_isSound_14 rfl ?_
      refine w_aload_n C dX6_isSound_15 rfl ?_
      refine g_X6_123 C dX6_isSound_16 (by first | assumption | exact Nat.zero_lt_one | exact Nat.zero_lt_two | exact Nat.one_lt_two) ?_
      rw [hcnt]
      refine w_icmp_ge C dX6_isSound_19 (by omega) (by omega) (fun h19 => ?_) (fun h19 => ?_)
      · omega
      · refine w_aload_n C dX6_isSound_22 rfl ?_
        refine w_iload_n C dX6_isSound_23 rfl ?_
        refine w_callV C dX6_isSound_24 (c_X6_shapeNumbered hl hI.1 hRm2 (n : Int) (by omega)) mX6_shapeNumbered vX6_shapeNumbered lk_X6_169 (by first | assumption | exact Nat.zero_lt_one | exact Nat.zero_lt_two | exact Nat.one_lt_two) rfl rfl rfl rfl ⟨by decide, by decide, by decide, by decide⟩ (Nat.le_of_ble_eq_true rfl) (fun _ _ h => h.elim) ⟨by decide, by decide⟩ (fun r_ M_ q24 => ?_)
        obtain ⟨rfl, rfl⟩ := q24
        rw [if_pos (by omega), Int.toNat_natCast]
        refine w_astore_n C dX6_isSound_27 (by decide) ?_
        refine w_aload_n C dX6_isSound_28 rfl ?_
        refine w_ifnull C dX6_isSound_29 (fun h29 => ?_) (fun h29 => ?_)
        · cases h29
        · refine w_aload_n C dX6_isSound_32 rfl ?_
          refine g_X6_146 C dX6_isSound_33 (by first | assumption | exact Nat.zero_lt_one | exact Nat.zero_lt_two | exact Nat.one_lt_two) ?_
          rw [s4]
          refine w_aload_n C dX6_isSound_36 rfl ?_
          refine g_X6_376 C dX6_isSound_37 (by first | assumption | exact Nat.zero_lt_one | exact Nat.zero_lt_two | exact Nat.one_lt_two) ?_
          rw [s2]
          refine w_aload_n C dX6_isSound_40 rfl ?_
          refine g_X6_383 C dX6_isSound_41 (by first | assumption | exact Nat.zero_lt_one | exact Nat.zero_lt_two | exact Nat.one_lt_two) ?_
          rw [s3]
          refine w_iadd C dX6_isSound_44 ?_
          refine w_i2l C dX6_isSound_45 (by omega) ?_
          refine w_aload_n C dX6_isSound_46 rfl ?_
          refine w_iload_n C dX6_isSound_47 rfl ?_
          refine w_callV C dX6_isSound_48 (c_X6_inGarments hl hI hmd hmz hns hnt hR2 n (by omega)) mX6_inGarments vX6_inGarments lk_X6_445 (by first | assumption | exact Nat.zero_lt_one | exact Nat.zero_lt_two | exact Nat.one_lt_two) rfl rfl rfl rfl ⟨by decide, by decide, by decide, by decide⟩ (Nat.le_of_ble_eq_true rfl) (fun _ _ h => h.elim) ⟨by decide, by decide⟩ (fun r_ M_ q48 => ?_)
          obtain ⟨rfl, rfl⟩ := q48
          have eE : (stS S n 0 : Int) + stS S n 1 + (garS S n : Nat) = (eS S n : Nat) := by
            unfold eS
            omega
          refine w_ladd C dX6_isSound_51 ?_
          rw [eE]
          refine w_lcmp C dX6_isSound_52 (by omega) (by omega) ?_
          rw [if_neg (Int.lt_irrefl _), if_pos rfl]
          refine w_if_eq C dX6_isSound_53 (by omega) (fun h53 => ?_) (fun h53 => ?_)
          · refine w_iinc C dX6_isSound_58 rfl (by decide) ?_
            refine w_goto C dX6_isSound_61 ?_
            exact Wm.lsub (lv' := [(0, aO 0 0), (1, aI ((n + 1 : Nat) : Int))]) ⟨rfl, rfl, trivial⟩ (ih (n + 1) (by omega))
          · omega
  refine w_if_ne C dX6_isSound_7 (by omega) (fun h7 => ?_) (fun h7 => ?_)
  · refine w_iconst C dX6_isSound_12 ?_
    refine w_istore_n C dX6_isSound_13 (by decide) ?_
    exact Wm.lsub (lv' := [(0, aO 0 0), (1, aI ((0 : Nat) : Int))]) ⟨rfl, rfl, trivial⟩ (loop (nsS S) 0 (by omega))
  · omega
end Rm
