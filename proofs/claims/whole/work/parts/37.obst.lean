/-! Marker: obstacle and firstSpot -/
section Mk
variable {l : Launch} {b0 : Nat → Prop} {ad : Ads} {ns nt : Nat} {M : Mem}
theorem c_X1_obstacle (hl : l.stackTraces = false) {S : Sg} {P : List Pc} {nx mi j : Nat} {f : Nat → Nat} (hG : GInv S) (hmi : inD (cnt ns nt) 2 mi) (hP : P.length ≤ 40) (hCl : RepCl S M) (hSh : RepSh S M) (hM : RepMF f mi S P nx M) (hns : nsS S ≤ ns) (hj : j < nsS S) (t w : Nat) (ht : t < 4) (hm : w ≤ 1) (row col : Int) (hrow : -2147483648 ≤ row ∧ row ≤ 2147483647) (hcol : -2147483648 ≤ col ∧ col ≤ 2147483647) : Con l b0 yX1_obstacle cX1_obstacle 8 (some .char) 3 0 0 [aO 2 mi, aO 1 0, aO 4 j, aI t, aI row, aI col, aI w] ad (cnt ns nt) M (fun r9 M' => M' = M ∧ r9 = some (aI (reasonS S P j t w row col))) noX := by
  have hj4 : inD (cnt ns nt) 4 j := by
    show j < ns
    omega
  have hj13 : inD (cnt ns nt) 13 j := by
    show j < ns
    omega
  have hmi2 : inD (cnt ns nt) 23 mi := hmi
  have hcs := cols12 hG
  have hmb := mkR_bd S hG j t w
  have hbd := hgt_bd (dB S j) t w
  have hCl' := hCl
  obtain ⟨⟨h1, h2, h3, h4, h5, h6⟩, h7⟩ := hCl'
  obtain ⟨⟨s1, s2, s3, s4, s5, s6, s7, s8⟩, -, s9⟩ := hSh j hj
  have hz25 := (hG.2.2.2.2.2.2.2.2.2.1 j)
  obtain ⟨p1, p2, p3, p4, p5, p6, p7, p8, p9⟩ := hz25
  have hnap := hG.2.1
  have hfd := hG.2.2.1
  have hM' := hM
  obtain ⟨m1, m2, -, m4, m5, m6, m7⟩ := hM'
  have hb1 := b2_01 (mayT S j t)
  have hb2 := b2_01 (¬ (paS S j = 0 ∨ fdS S = 1))
  have hb3 := b2_01 ((0 ≤ row ∧ row + hgt (dB S j) t w ≤ 60) ∧ 0 ≤ col ∧ col + wid (dB S j) t w ≤ colsS S)
  have hb4 := b2_01 (anyC (dB S j) t w (fun r c => badS S (row.toNat + r) (col.toNat + c)) = true)
  have hb5 := b2_01 (anyC (dB S j) t w (fun r c => decide (clo S P (12 * (row.toNat + r) + (col.toNat + c)) ≠ -1)) = true)
  refine Con.of hl pl_X1 (Nat.le_of_ble_eq_true rfl) ?_
  intro D cA p e s m args below meth c C hr
  have K58 : 0 < szS S j → mayT S j t → ¬ (w = 1 ∧ (paS S j = 0 ∨ fdS S = 1)) → Wm p l e (rmd 3 0 0) s m args below meth c 8 D cA b0 0 0 (vx_MQ below (mQ D cA b0 ad (cnt ns nt) (fun r9 M' => M' = M ∧ r9 = some (aI (reasonS S P j t w row col)))) (mX D cA b0 ad (cnt ns nt) noX) args s 0 0 b0) 58 [(0, aO 2 mi), (1, aO 1 0), (2, aO 4 j), (3, aI t), (4, aI row), (5, aI col), (6, aI w), (7, aO 5 (8 * j + (t + 4 * w)))] [] ad (cnt ns nt) M := by
    intro hz0 hT hMm
    obtain ⟨o1, o2, o3, o4, o5, o6⟩ := ou_at (nt := nt) hSh hj hns ht hm hz0
    have E2 : reasonS S P j t w row col = (if offS S j t w row col then 111 else if anyC (dB S j) t w (fun r c => badS S (row.toNat + r) (col.toNat + c)) then 102 else if anyC (dB S j) t w (fun r c => decide (clo S P (12 * (row.toNat + r) + (col.toNat + c)) ≠ -1)) then 112 else if strp S P j t w row then 115 else 45) := by
      unfold reasonS
      rw [if_neg (show ¬ szS S j = 0 by omega), if_neg (fun q => q hT), if_neg hMm]
    rw [E2]
    refine w_aload_n C dX1_obstacle_58 rfl ?_
    refine w_aload C dX1_obstacle_59 rfl ?_
    refine w_iload C dX1_obstacle_61 rfl ?_
    refine w_iload C dX1_obstacle_63 rfl ?_
    refine w_callV C dX1_obstacle_65 (c_X0_reaches hl hG hCl.1 _ o1 _ _ o4 o5 (by omega) row col hrow hcol) mX0_reaches vX0_reaches lk_X1_81 (by first | assumption | exact Nat.zero_lt_one | exact Nat.zero_lt_two | exact Nat.one_lt_two) rfl rfl rfl rfl ⟨by decide, by decide, by decide, by decide⟩ (Nat.le_of_ble_eq_true rfl) (fun _ _ h => h.elim) ⟨by decide, by decide⟩ (fun r_ M_ q65 => ?_)
    obtain ⟨rfl, rfl⟩ := q65
    refine w_if_ne C dX1_obstacle_68 (by omega) (fun h68 => ?_) (fun h68 => ?_)
    · have hF : ¬ offS S j t w row col := fun h9 => h68 (b2_f h9)
      have hF2 := Decidable.not_not.mp hF
      rw [if_neg hF]
      obtain ⟨ru, rfl⟩ := Int.eq_ofNat_of_zero_le hF2.1.1
      obtain ⟨cu, rfl⟩ := Int.eq_ofNat_of_zero_le hF2.2.1
      obtain ⟨k0, hk0, hd0⟩ := s8.mp (by omega)
      obtain ⟨x1, x2, x3, x4⟩ := hgt_cell (d := dB S j) (t := t) (mi := w) ⟨k0, hk0, hd0⟩
      obtain ⟨y1, y2, y3, y4⟩ := wid_cell (d := dB S j) (t := t) (mi := w) ⟨k0, hk0, hd0⟩
      rw [Int.toNat_natCast, Int.toNat_natCast] at hb4 hb5 ⊢
      refine w_aload_n C dX1_obstacle_74 rfl ?_
      refine g_X1_85 C dX1_obstacle_75 (by first | assumption | exact Nat.zero_lt_one | exact Nat.zero_lt_two | exact Nat.one_lt_two) ?_
      refine w_aload C dX1_obstacle_78 rfl ?_
      refine w_iload C dX1_obstacle_80 rfl ?_
      refine w_iload C dX1_obstacle_82 rfl ?_
      refine w_callS C dX1_obstacle_84 (c_X1_meetsAny hl IA_21 (show inD (cnt ns nt) 21 0 from Nat.zero_lt_one) h7 o1 o2 o3 o4 (row := ru) (col := cu) (by omega) (by omega) (by omega) (by omega)) mX1_meetsAny sX1_meetsAny lk_X1_88 rfl rfl ⟨by decide, by decide, by decide, by decide⟩ (Nat.le_of_ble_eq_true rfl) (fun _ _ h => h.elim) ⟨by decide, by decide⟩ (fun r_ M_ q84 => ?_)
      obtain ⟨rfl, rfl⟩ := q84
      refine w_if_eq C dX1_obstacle_87 (by omega) (fun h87 => ?_) (fun h87 => ?_)
      · have hA : ¬ anyC (dB S j) t w (fun r c => badS S (ru + r) (cu + c)) = true := fun h9 => by
          rw [b2_t h9] at h87
          omega
        rw [if_neg hA]
        refine w_aload_n C dX1_obstacle_93 rfl ?_
        refine g_X1_28 C dX1_obstacle_94 (by first | assumption | exact Nat.zero_lt_one | exact Nat.zero_lt_two | exact Nat.one_lt_two) ?_
        refine w_aload C dX1_obstacle_97 rfl ?_
        refine w_iload C dX1_obstacle_99 rfl ?_
        refine w_iload C dX1_obstacle_101 rfl ?_
        refine w_callS C dX1_obstacle_103 (c_X1_meetsAny hl IA_23 hmi2 m5 o1 o2 o3 o4 (row := ru) (col := cu) (by omega) (by omega) (by omega) (by omega)) mX1_meetsAny sX1_meetsAny lk_X1_88 rfl rfl ⟨by decide, by decide, by decide, by decide⟩ (Nat.le_of_ble_eq_true rfl) (fun _ _ h => h.elim) ⟨by decide, by decide⟩ (fun r_ M_ q103 => ?_)
        obtain ⟨rfl, rfl⟩ := q103
        refine w_if_eq C dX1_obstacle_106 (by omega) (fun h106 => ?_) (fun h106 => ?_)
        · have hA : ¬ anyC (dB S j) t w (fun r c => decide (clo S P (12 * (ru + r) + (cu + c)) ≠ -1)) = true := fun h9 => by
            rw [b2_t h9] at h106
            omega
          rw [if_neg hA]
          refine w_aload_n C dX1_obstacle_112 rfl ?_
          refine w_aload_n C dX1_obstacle_113 rfl ?_
          refine g_X1_92 C dX1_obstacle_114 (by first | assumption | exact Nat.zero_lt_one | exact Nat.zero_lt_two | exact Nat.one_lt_two) ?_
          refine w_aload_n C dX1_obstacle_117 rfl ?_
          refine w_iload C dX1_obstacle_118 rfl ?_
          refine w_aload C dX1_obstacle_120 rfl ?_
          refine g_X1_95 C dX1_obstacle_122 (by first | assumption | exact Nat.zero_lt_one | exact Nat.zero_lt_two | exact Nat.one_lt_two) ?_
          rw [o6, s4]
          refine w_iadd C dX1_obstacle_125 ?_
          refine w_callV C dX1_obstacle_126 (c_X0_remainder hl hG hCl.1 ((ru : Int) + mkR S j t w) (by omega)) mX0_remainder vX0_remainder lk_X1_100 (by first | assumption | exact Nat.zero_lt_one | exact Nat.zero_lt_two | exact Nat.one_lt_two) rfl rfl rfl rfl ⟨by decide, by decide, by decide, by decide⟩ (Nat.le_of_ble_eq_true rfl) (fun _ _ h => h.elim) ⟨by decide, by decide⟩ (fun r_ M_ q126 => ?_)
          obtain ⟨rfl, rfl⟩ := q126
          have hrb : -2147483648 ≤ remS S ((ru : Int) + mkR S j t w) ∧ remS S ((ru : Int) + mkR S j t w) ≤ 2147483647 := by
            unfold remS
            have h6 := hG.2.2.2.1
            split
            · have := Int.emod_nonneg ((ru : Int) + mkR S j t w) (b := (srS S : Int)) (by omega)
              have := Int.emod_lt_of_pos ((ru : Int) + mkR S j t w) (b := (srS S : Int)) (by omega)
              omega
            · omega
          refine w_callV C dX1_obstacle_129 (c_X1_stripesMeet hl hG hmi hP hM _ hrb) mX1_stripesMeet vX1_stripesMeet lk_X1_103 (by first | assumption | exact Nat.zero_lt_one | exact Nat.zero_lt_two | exact Nat.one_lt_two) rfl rfl rfl rfl ⟨by decide, by decide, by decide, by decide⟩ (Nat.le_of_ble_eq_true rfl) (fun _ _ h => h.elim) ⟨by decide, by decide⟩ (fun r_ M_ q129 => ?_)
          obtain ⟨rfl, rfl⟩ := q129
          by_cases hst : strp S P j t w (ru : Int) = true
          · rw [if_pos hst, b2_f (fun q => q (strp_iff.mp hst))]
            refine w_if_eq C dX1_obstacle_132 (by omega) (fun h132 => ?_) (fun h132 => ?_)
            · refine w_bipush (v := 115) C dX1_obstacle_140 rfl ?_
              refine w_iret C hr dX1_obstacle_142 (narrow_c (by omega)).1 (⟨rfl, rfl⟩) (by decide) (by decide)
            · omega
          · have hn : ¬ (gpS S j ≠ 0 ∧ ∃ p ∈ P, gpS S (pShp p) = gpS S j ∧ remP S p ≠ remS S ((ru : Int) + mkR S j t w)) := fun q => hst (strp_iff.mpr q)
            rw [if_neg hst, b2_t hn]
            refine w_if_eq C dX1_obstacle_132 (by omega) (fun h132 => ?_) (fun h132 => ?_)
            · omega
            · refine w_bipush (v := 45) C dX1_obstacle_135 rfl ?_
              refine w_goto C dX1_obstacle_137 ?_
              refine w_iret C hr dX1_obstacle_142 (narrow_c (by omega)).1 (⟨rfl, rfl⟩) (by decide) (by decide)
        · have hA : anyC (dB S j) t w (fun r c => decide (clo S P (12 * (ru + r) + (cu + c)) ≠ -1)) = true := Decidable.byContradiction fun h9 => h106 (b2_f h9)
          rw [if_pos hA]
          refine w_bipush (v := 112) C dX1_obstacle_109 rfl ?_
          refine w_iret C hr dX1_obstacle_111 (narrow_c (by omega)).1 (⟨rfl, rfl⟩) (by decide) (by decide)
      · have hA : anyC (dB S j) t w (fun r c => badS S (ru + r) (cu + c)) = true := Decidable.byContradiction fun h9 => h87 (b2_f h9)
        rw [if_pos hA]
        refine w_bipush (v := 102) C dX1_obstacle_90 rfl ?_
        refine w_iret C hr dX1_obstacle_92 (narrow_c (by omega)).1 (⟨rfl, rfl⟩) (by decide) (by decide)
    · have hF : offS S j t w row col := fun h9 => by
        rw [b2_t h9] at h68
        omega
      rw [if_pos hF]
      refine w_bipush (v := 111) C dX1_obstacle_71 rfl ?_
      refine w_iret C hr dX1_obstacle_73 (narrow_c (by omega)).1 (⟨rfl, rfl⟩) (by decide) (by decide)
  refine w_aload_n C dX1_obstacle_0 rfl ?_
  refine w_iload_n C dX1_obstacle_1 rfl ?_
  refine w_iload C dX1_obstacle_2 rfl ?_
  refine w_callV C dX1_obstacle_4 (c_X4_outlineFor hl hj4 hj13 (fun o ho => (s9 o ho).1) t w ht hm) mX4_outlineFor vX4_outlineFor lk_X1_55 (by first | assumption | exact Nat.zero_lt_one | exact Nat.zero_lt_two | exact Nat.one_lt_two) rfl rfl rfl rfl ⟨by decide, by decide, by decide, by decide⟩ (Nat.le_of_ble_eq_true rfl) (fun _ _ h => h.elim) ⟨by decide, by decide⟩ (fun r_ M_ q4 => ?_)
  obtain ⟨rfl, rfl⟩ := q4
  refine w_astore C dX1_obstacle_7 (by decide) ?_
  refine w_aload_n C dX1_obstacle_9 rfl ?_
  refine g_X1_61 C dX1_obstacle_10 (by first | assumption | exact Nat.zero_lt_one | exact Nat.zero_lt_two | exact Nat.one_lt_two) ?_
  rw [s3]
  have E : szS S j = 0 → reasonS S P j t w row col = 101 := fun h => by
    unfold reasonS
    rw [if_pos h]
  refine w_if_eq C dX1_obstacle_13 (by omega) (fun h13 => ?_) (fun h13 => ?_)
  · refine w_bipush (v := 101) C dX1_obstacle_21 rfl ?_
    refine w_iret C hr dX1_obstacle_23 (narrow_c (by omega)).1 (⟨rfl, by rw [E (by omega)]⟩) (by decide) (by decide)
  · obtain ⟨o1, o2, o3, o4, o5, o6⟩ := ou_at (nt := nt) hSh hj hns ht hm (by omega)
    refine w_aload C dX1_obstacle_16 rfl ?_
    refine w_ifnonnull C dX1_obstacle_18 (fun h18 => ?_) (fun h18 => ?_)
    · refine w_aload_n C dX1_obstacle_24 rfl ?_
      refine w_iload_n C dX1_obstacle_25 rfl ?_
      refine w_aload_n C dX1_obstacle_26 rfl ?_
      refine g_X1_64 C dX1_obstacle_27 (by first | assumption | exact Nat.zero_lt_one | exact Nat.zero_lt_two | exact Nat.one_lt_two) ?_
      rw [h2]
      refine w_callV C dX1_obstacle_30 (c_X4_canTurn hl hG hj4 s1 t ht) mX4_canTurn vX4_canTurn lk_X1_70 (by first | assumption | exact Nat.zero_lt_one | exact Nat.zero_lt_two | exact Nat.one_lt_two) rfl rfl rfl rfl ⟨by decide, by decide, by decide, by decide⟩ (Nat.le_of_ble_eq_true rfl) (fun _ _ h => h.elim) ⟨by decide, by decide⟩ (fun r_ M_ q30 => ?_)
      obtain ⟨rfl, rfl⟩ := q30
      refine w_if_ne C dX1_obstacle_33 (by omega) (fun h33 => ?_) (fun h33 => ?_)
      · have hT : mayT S j t := Decidable.byContradiction fun h9 => h33 (b2_f h9)
        refine w_iload C dX1_obstacle_39 rfl ?_
        refine w_if_eq C dX1_obstacle_41 (by omega) (fun h41 => ?_) (fun h41 => ?_)
        · exact Wm.lsub (lv' := [(0, aO 2 mi), (1, aO 1 0), (2, aO 4 j), (3, aI t), (4, aI row), (5, aI col), (6, aI w), (7, aO 5 (8 * j + (t + 4 * w)))]) ⟨rfl, rfl, rfl, rfl, rfl, rfl, rfl, rfl, trivial⟩ (K58 (by omega) hT (fun q => by omega))
        · refine w_aload_n C dX1_obstacle_44 rfl ?_
          refine w_aload_n C dX1_obstacle_45 rfl ?_
          refine g_X1_74 C dX1_obstacle_46 (by first | assumption | exact Nat.zero_lt_one | exact Nat.zero_lt_two | exact Nat.one_lt_two) ?_
          rw [h3]
          refine w_callV C dX1_obstacle_49 (c_X4_canMirror hl hG hj4 s2) mX4_canMirror vX4_canMirror lk_X1_77 (by first | assumption | exact Nat.zero_lt_one | exact Nat.zero_lt_two | exact Nat.one_lt_two) rfl rfl rfl rfl ⟨by decide, by decide, by decide, by decide⟩ (Nat.le_of_ble_eq_true rfl) (fun _ _ h => h.elim) ⟨by decide, by decide⟩ (fun r_ M_ q49 => ?_)
          obtain ⟨rfl, rfl⟩ := q49
          refine w_if_ne C dX1_obstacle_52 (by omega) (fun h52 => ?_) (fun h52 => ?_)
          · exact Wm.lsub (lv' := [(0, aO 2 mi), (1, aO 1 0), (2, aO 4 j), (3, aI t), (4, aI row), (5, aI col), (6, aI w), (7, aO 5 (8 * j + (t + 4 * w)))]) ⟨rfl, rfl, rfl, rfl, rfl, rfl, rfl, rfl, trivial⟩ (K58 (by omega) hT (fun q => h52 (b2_f (fun h9 => h9 q.2))))
          · have hMm : paS S j = 0 ∨ fdS S = 1 := Decidable.byContradiction fun h9 => by
              rw [b2_t h9] at h52
              omega
            refine w_bipush (v := 109) C dX1_obstacle_55 rfl ?_
            refine w_iret C hr dX1_obstacle_57 (narrow_c (by omega)).1 (⟨rfl, ?_⟩) (by decide) (by decide)
            unfold reasonS
            rw [if_neg (show ¬ szS S j = 0 by omega), if_neg (fun q => q hT), if_pos ⟨by omega, hMm⟩]
      · have hT : ¬ mayT S j t := fun h9 => by
          rw [b2_t h9] at h33
          omega
        refine w_bipush (v := 116) C dX1_obstacle_36 rfl ?_
        refine w_iret C hr dX1_obstacle_38 (narrow_c (by omega)).1 (⟨rfl, ?_⟩) (by decide) (by decide)
        unfold reasonS
        rw [if_neg (show ¬ szS S j = 0 by omega), if_pos hT]
    · cases h18
theorem c_X1_firstSpot (hl : l.stackTraces = false) {S : Sg} {P : List Pc} {nx mi j : Nat} {f : Nat → Nat} (hG : GInv S) (hmi : inD (cnt ns nt) 2 mi) (hP : P.length ≤ 40) (hCl : RepCl S M) (hSh : RepSh S M) (hM : RepMF f mi S P nx M) (hns : nsS S ≤ ns) (hj : j < nsS S) (w : Nat) (hm : w ≤ 1) : Con l b0 yX1_firstSpot cX1_firstSpot 8 (some .int) 4 0 0 [aO 2 mi, aO 1 0, aO 4 j, aI w] ad (cnt ns nt) M (fun r9 M' => M' = M ∧ ∃ z, r9 = some (aI z) ∧ FSp S P j w z) noX := by
  have hcs := cols12 hG
  have hs8 : 0 < szS S j → ∃ k, k < 25 ∧ dB S j k = true := (hSh j hj).1.2.2.2.2.2.2.2.mp
  refine Con.of hl pl_X1 (Nat.le_of_ble_eq_true rfl) ?_
  intro D cA p e s m args below meth c C hr
  have L9 : ∀ (b u : Nat), u + b = 60 → (∀ s, s < 48 * u → ¬ free S P j w s) → Wm p l e (rmd 4 0 0) s m args below meth c 8 D cA b0 0 0 (vx_MQ below (mQ D cA b0 ad (cnt ns nt) (fun r9 M' => M' = M ∧ ∃ z, r9 = some (aI z) ∧ FSp S P j w z)) (mX D cA b0 ad (cnt ns nt) noX) args s 0 0 b0) 9 [(0, aO 2 mi), (1, aO 1 0), (2, aO 4 j), (3, aI w), (4, aI (colsS S)), (5, aI u)] [] ad (cnt ns nt) M := by
    intro b
    induction b with
    | zero =>
      intro u hu hno
      refine w_iload C dX1_firstSpot_9 rfl ?_
      refine w_bipush (v := 60) C dX1_firstSpot_11 rfl ?_
      refine w_icmp_ge C dX1_firstSpot_13 (by omega) (by omega) (fun h13 => ?_) (fun h13 => ?_)
      · refine w_iconst C dX1_firstSpot_85 ?_
        refine w_iret C hr dX1_firstSpot_86 rfl (⟨rfl, _, rfl, Or.inl ⟨rfl, fun s hs => hno s (by omega)⟩⟩) (by decide) (by decide)
      · omega
    | succ b ih =>
      intro u hu hno
      have L19 : ∀ (b' v : Nat), v + b' = colsS S → (∀ s, s < 48 * u + 4 * v → ¬ free S P j w s) → Wm p l e (rmd 4 0 0) s m args below meth c 8 D cA b0 0 0 (vx_MQ below (mQ D cA b0 ad (cnt ns nt) (fun r9 M' => M' = M ∧ ∃ z, r9 = some (aI z) ∧ FSp S P j w z)) (mX D cA b0 ad (cnt ns nt) noX) args s 0 0 b0) 19 [(0, aO 2 mi), (1, aO 1 0), (2, aO 4 j), (3, aI w), (4, aI (colsS S)), (5, aI u), (6, aI v)] [] ad (cnt ns nt) M := by
        intro b'
        induction b' with
        | zero =>
          intro v hv hno'
          refine w_iload C dX1_firstSpot_19 rfl ?_
          refine w_iload C dX1_firstSpot_21 rfl ?_
          refine w_icmp_ge C dX1_firstSpot_23 (by omega) (by omega) (fun h23 => ?_) (fun h23 => ?_)
          · refine w_iinc C dX1_firstSpot_79 rfl (by decide) ?_
            refine w_goto C dX1_firstSpot_82 ?_
            refine Wm.lsub (lv' := [(0, aO 2 mi), (1, aO 1 0), (2, aO 4 j), (3, aI w), (4, aI (colsS S)), (5, aI ((u + 1 : Nat) : Int))]) ⟨rfl, rfl, rfl, rfl, rfl, rfl, trivial⟩ (ih (u + 1) (by omega) fun s hs => ?_)
            by_cases h : s < 48 * u + 4 * v
            · exact hno' s h
            · intro h9
              have := free_col hs8 h9
              omega
          · omega
        | succ b' ih' =>
          intro v hv hno'
          have L29 : ∀ (b'' t : Nat), t + b'' = 4 → (∀ s, s < 48 * u + 4 * v + t → ¬ free S P j w s) → Wm p l e (rmd 4 0 0) s m args below meth c 8 D cA b0 0 0 (vx_MQ below (mQ D cA b0 ad (cnt ns nt) (fun r9 M' => M' = M ∧ ∃ z, r9 = some (aI z) ∧ FSp S P j w z)) (mX D cA b0 ad (cnt ns nt) noX) args s 0 0 b0) 29 [(0, aO 2 mi), (1, aO 1 0), (2, aO 4 j), (3, aI w), (4, aI (colsS S)), (5, aI u), (6, aI v), (7, aI t)] [] ad (cnt ns nt) M := by
            intro b''
            induction b'' with
            | zero =>
              intro t ht hno''
              refine w_iload C dX1_firstSpot_29 rfl ?_
              refine w_iconst C dX1_firstSpot_31 ?_
              refine w_icmp_ge C dX1_firstSpot_32 (by omega) (by omega) (fun h32 => ?_) (fun h32 => ?_)
              · refine w_iinc C dX1_firstSpot_73 rfl (by decide) ?_
                refine w_goto C dX1_firstSpot_76 ?_
                exact Wm.lsub (lv' := [(0, aO 2 mi), (1, aO 1 0), (2, aO 4 j), (3, aI w), (4, aI (colsS S)), (5, aI u), (6, aI ((v + 1 : Nat) : Int))]) ⟨rfl, rfl, rfl, rfl, rfl, rfl, rfl, trivial⟩ (ih' (v + 1) (by omega) fun s hs => hno'' s (by omega))
              · omega
            | succ b'' ih'' =>
              intro t ht hno''
              have e4 : (48 * u + 4 * v + t) % 4 = t := by omega
              have e5 : (48 * u + 4 * v + t) / 4 / 12 = u := by omega
              have e6 : (48 * u + 4 * v + t) / 4 % 12 = v := by omega
              have e7 : free S P j w (48 * u + 4 * v + t) ↔ reasonS S P j t w (u : Int) (v : Int) = 45 := by
                unfold free
                rw [e4, e5, e6]
              refine w_iload C dX1_firstSpot_29 rfl ?_
              refine w_iconst C dX1_firstSpot_31 ?_
              refine w_icmp_ge C dX1_firstSpot_32 (by omega) (by omega) (fun h32 => ?_) (fun h32 => ?_)
              · omega
              · refine w_aload_n C dX1_firstSpot_35 rfl ?_
                refine w_aload_n C dX1_firstSpot_36 rfl ?_
                refine w_aload_n C dX1_firstSpot_37 rfl ?_
                refine w_iload C dX1_firstSpot_38 rfl ?_
                refine w_iload C dX1_firstSpot_40 rfl ?_
                refine w_iload C dX1_firstSpot_42 rfl ?_
                refine w_iload_n C dX1_firstSpot_44 rfl ?_
                refine w_callV C dX1_firstSpot_45 (c_X1_obstacle hl hG hmi hP hCl hSh hM hns hj t w (by omega) hm (u : Int) (v : Int) (by omega) (by omega)) mX1_obstacle vX1_obstacle lk_X1_121 (by first | assumption | exact Nat.zero_lt_one | exact Nat.zero_lt_two | exact Nat.one_lt_two) rfl rfl rfl rfl ⟨by decide, by decide, by decide, by decide⟩ (Nat.le_of_ble_eq_true rfl) (fun _ _ h => h.elim) ⟨by decide, by decide⟩ (fun r_ M_ q45 => ?_)
                obtain ⟨rfl, rfl⟩ := q45
                have hrs : 0 ≤ reasonS S P j t w (u : Int) (v : Int) ∧ reasonS S P j t w (u : Int) (v : Int) ≤ 127 := by
                  unfold reasonS
                  (repeat' split) <;> omega
                refine w_bipush (v := 45) C dX1_firstSpot_48 rfl ?_
                refine w_icmp_ne C dX1_firstSpot_50 (by omega) (by omega) (fun h50 => ?_) (fun h50 => ?_)
                · refine w_iinc C dX1_firstSpot_67 rfl (by decide) ?_
                  refine w_goto C dX1_firstSpot_70 ?_
                  refine Wm.lsub (lv' := [(0, aO 2 mi), (1, aO 1 0), (2, aO 4 j), (3, aI w), (4, aI (colsS S)), (5, aI u), (6, aI v), (7, aI ((t + 1 : Nat) : Int))]) ⟨rfl, rfl, rfl, rfl, rfl, rfl, rfl, rfl, trivial⟩ (ih'' (t + 1) (by omega) fun s hs => ?_)
                  by_cases h : s < 48 * u + 4 * v + t
                  · exact hno'' s h
                  · rw [show s = 48 * u + 4 * v + t by omega, e7]
                    exact h50
                · refine w_iload C dX1_firstSpot_53 rfl ?_
                  refine w_bipush (v := 12) C dX1_firstSpot_55 rfl ?_
                  refine w_imul C dX1_firstSpot_57 ?_
                  refine w_iload C dX1_firstSpot_58 rfl ?_
                  refine w_iadd C dX1_firstSpot_60 ?_
                  refine w_iconst C dX1_firstSpot_61 ?_
                  refine w_imul C dX1_firstSpot_62 ?_
                  refine w_iload C dX1_firstSpot_63 rfl ?_
                  refine w_iadd C dX1_firstSpot_65 ?_
                  refine w_iret C hr dX1_firstSpot_66 rfl (⟨rfl, _, rfl, Or.inr ⟨48 * u + 4 * v + t, by omega, by omega, e7.mpr (Decidable.not_not.mp h50), hno''⟩⟩) (by decide) (by decide)
          refine w_iload C dX1_firstSpot_19 rfl ?_
          refine w_iload C dX1_firstSpot_21 rfl ?_
          refine w_icmp_ge C dX1_firstSpot_23 (by omega) (by omega) (fun h23 => ?_) (fun h23 => ?_)
          · omega
          · refine w_iconst C dX1_firstSpot_26 ?_
            refine w_istore C dX1_firstSpot_27 (by decide) ?_
            exact Wm.lsub (lv' := [(0, aO 2 mi), (1, aO 1 0), (2, aO 4 j), (3, aI w), (4, aI (colsS S)), (5, aI u), (6, aI v), (7, aI ((0 : Nat) : Int))]) ⟨rfl, rfl, rfl, rfl, rfl, rfl, rfl, rfl, trivial⟩ (L29 4 0 rfl hno')
      refine w_iload C dX1_firstSpot_9 rfl ?_
      refine w_bipush (v := 60) C dX1_firstSpot_11 rfl ?_
      refine w_icmp_ge C dX1_firstSpot_13 (by omega) (by omega) (fun h13 => ?_) (fun h13 => ?_)
      · omega
      · refine w_iconst C dX1_firstSpot_16 ?_
        refine w_istore C dX1_firstSpot_17 (by decide) ?_
        exact Wm.lsub (lv' := [(0, aO 2 mi), (1, aO 1 0), (2, aO 4 j), (3, aI w), (4, aI (colsS S)), (5, aI u), (6, aI ((0 : Nat) : Int))]) ⟨rfl, rfl, rfl, rfl, rfl, rfl, rfl, trivial⟩ (L19 (colsS S) 0 (by omega) hno)
  refine w_aload_n C dX1_firstSpot_0 rfl ?_
  refine w_callV C dX1_firstSpot_1 (c_X0_openColumns hl hG hCl.1) mX0_openColumns vX0_openColumns lk_X1_117 (by first | assumption | exact Nat.zero_lt_one | exact Nat.zero_lt_two | exact Nat.one_lt_two) rfl rfl rfl rfl ⟨by decide, by decide, by decide, by decide⟩ (Nat.le_of_ble_eq_true rfl) (fun _ _ h => h.elim) ⟨by decide, by decide⟩ (fun r_ M_ q1 => ?_)
  obtain ⟨rfl, rfl⟩ := q1
  refine w_istore C dX1_firstSpot_4 (by decide) ?_
  refine w_iconst C dX1_firstSpot_6 ?_
  refine w_istore C dX1_firstSpot_7 (by decide) ?_
  exact Wm.lsub (lv' := [(0, aO 2 mi), (1, aO 1 0), (2, aO 4 j), (3, aI w), (4, aI (colsS S)), (5, aI ((0 : Nat) : Int))]) ⟨rfl, rfl, rfl, rfl, rfl, rfl, trivial⟩ (L9 60 0 rfl (fun s h => absurd h (Nat.not_lt_zero s)))
end Mk
