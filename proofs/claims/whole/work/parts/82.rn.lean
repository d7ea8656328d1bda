/-! the room: make -/
section Rm
variable {l : Launch} {b0 : Nat → Prop} {ad : Ads} {ns nt : Nat} {M : Mem}
theorem c_X4_giveAwayN (hl : l.stackTraces = false) {j : Nat} (hj : inD (cnt ns nt) 4 j) (x y v : Int) (p9 : Nat) (hp : p9 ≤ 1) (h8 : M.1 4 j 8 = x) (h9 : M.1 4 j 9 = y) (h1 : M.1 4 j 1 = p9) : Con l b0 yX4_giveAway cX4_giveAway 2 none 1 0 0 [aO 4 j, aI v] ad (cnt ns nt) M (fun r9 M' => M' = (if p9 = 1 then uI (uI M 4 j 8 (x - v)) 4 j 9 (y - v) else uI M 4 j 8 (x - v)) ∧ r9 = none) noX := by
  refine Con.of hl pl_X4 (Nat.le_of_ble_eq_true rfl) ?_
  intro D cA p e s m args below meth c C hr
  refine w_aload_n C dX4_giveAway_0 rfl ?_
  refine w_dup C dX4_giveAway_1 rfl ?_
  refine g_X4_63 C dX4_giveAway_2 (by first | assumption | exact Nat.zero_lt_one | exact Nat.zero_lt_two | exact Nat.one_lt_two) ?_
  refine w_iload_n C dX4_giveAway_5 rfl ?_
  rw [h8]
  refine w_isub C dX4_giveAway_6 ?_
  refine p_X4_63 C dX4_giveAway_7 (by first | assumption | exact Nat.zero_lt_one | exact Nat.zero_lt_two | exact Nat.one_lt_two) ?_
  refine w_aload_n C dX4_giveAway_10 rfl ?_
  refine g_X4_15 C dX4_giveAway_11 (by first | assumption | exact Nat.zero_lt_one | exact Nat.zero_lt_two | exact Nat.one_lt_two) ?_
  rw [uI_ne (by omega), h1]
  refine w_if_eq C dX4_giveAway_14 (by omega) (fun h14 => ?_) (fun h14 => ?_)
  · refine w_vret C hr dX4_giveAway_27 (⟨by first | (rw [if_pos (by omega)]) | (rw [if_neg (by omega)]), rfl⟩) (by decide) (by decide)
  · refine w_aload_n C dX4_giveAway_17 rfl ?_
    refine w_dup C dX4_giveAway_18 rfl ?_
    refine g_X4_66 C dX4_giveAway_19 (by first | assumption | exact Nat.zero_lt_one | exact Nat.zero_lt_two | exact Nat.one_lt_two) ?_
    refine w_iload_n C dX4_giveAway_22 rfl ?_
    rw [uI_ne (by omega), h9]
    refine w_isub C dX4_giveAway_23 ?_
    refine p_X4_66 C dX4_giveAway_24 (by first | assumption | exact Nat.zero_lt_one | exact Nat.zero_lt_two | exact Nat.one_lt_two) ?_
    refine w_vret C hr dX4_giveAway_27 (⟨by first | (rw [if_pos (by omega)]) | (rw [if_neg (by omega)]), rfl⟩) (by decide) (by decide)
theorem c_X6_make (hl : l.stackTraces = false) {S : Sg} {P : List Pc} {nx : Nat} (hI : Inv S P nx) (hZ : InvZ S) (hmd : ∀ y, mdS S y < 1000000) (hns : nsS S ≤ ns) (hnt : ntS S ≤ nt) (hR : RepRoom S P nx M) (a g : Int) (ha : -2147483648 ≤ a ∧ a ≤ 2147483647) (hg : -2147483648 ≤ g ∧ g ≤ 2147483647) : Con l b0 yX6_make cX6_make 6 (some .int) 11 5 30 [aO 0 0, aI a, aI g] ad (cnt ns nt) M (okR (oMake a g S P nx)) (exR (oMake a g S P nx) [eIO, eIA, eUO, eIS]) := by
  have hR' := hR
  obtain ⟨hCl, hSh, hM, hSt, hRm, hTr⟩ := hR'
  have hct : ∀ y j, nsS S ≤ j → ctS S y j = 0 := fun y j h => (hZ.1 j h).2.2.2.2.2.2.2.2.2 y
  have g6 := hI.1.2.2.2.2.2.1
  have g7 := hI.1.2.2.2.2.2.2.1
  have hgl := giN_le S a.toNat (nsS S)
  refine Con.of hl pl_X6 (Nat.le_of_ble_eq_true rfl) ?_
  intro D cA p e s m args below meth c C hr
  have X2 : ∀ (E9 : String) (M9 : Mem), (E9 = eIO ∧ M9 = M ∧ ¬ (0 ≤ a ∧ a < ntS S)) → exR (oMake a g S P nx) [eIO, eIA, eUO, eIS] E9 M9 := fun E9 M9 h9 => by
    obtain ⟨rfl, rfl, h9⟩ := h9
    exact exR_of (i := 0) (by unfold oMake; rw [if_pos h9]) rfl hR
  have X7 : (0 ≤ a ∧ a < ntS S) → ∀ (E9 : String) (M9 : Mem), (E9 = eIA ∧ M9 = M ∧ ¬ (1 ≤ g ∧ g ≤ 99)) → exR (oMake a g S P nx) [eIO, eIA, eUO, eIS] E9 M9 := fun ha1 E9 M9 h9 => by
    obtain ⟨rfl, rfl, h9⟩ := h9
    exact exR_of (i := 1) (by unfold oMake; rw [if_neg (fun q => q ha1), if_pos h9]) rfl hR
  have X12 : (0 ≤ a ∧ a < ntS S) → (1 ≤ g ∧ g ≤ 99) → ∀ (E9 : String) (M9 : Mem), (M9 = M ∧ (E9 = eIO ∧ ¬ (0 ≤ a ∧ a < ntS S) ∨ E9 = eUO ∧ (0 ≤ a ∧ a < ntS S) ∧ takS S a.toNat = 0)) → exR (oMake a g S P nx) [eIO, eIA, eUO, eIS] E9 M9 := fun ha1 hg1 E9 M9 h9 => by
    obtain ⟨rfl, ⟨rfl, h9⟩ | ⟨rfl, h9, h8⟩⟩ := h9
    · exact absurd ha1 h9
    · exact exR_of (i := 2) (by unfold oMake; rw [if_neg (fun q => q ha1), if_neg (fun q => q hg1), if_pos h8]) rfl hR
  have L : ∀ (u v : Nat), a = (u : Int) → g = (v : Int) → u < ntS S → 1 ≤ v → v ≤ 99 → takS S u ≠ 0 → v ≤ giN S u (nsS S) → ∀ (d n : Nat) (M1 : Mem), n + d = nsS S → Fr (fun k i => k = 4) M M1 → (∀ j, j < n → M1.1 4 j 8 = stS (mkS S u v) j 0 ∧ M1.1 4 j 9 = stS (mkS S u v) j 1) → (∀ j, n ≤ j → M1.1 4 j 8 = M.1 4 j 8 ∧ M1.1 4 j 9 = M.1 4 j 9) → (∀ j s, s ≠ 8 → s ≠ 9 → M1.1 4 j s = M.1 4 j s) → M1.2 = M.2 → Wm p l e (rmd 11 5 30) s m args below meth c 6 D cA b0 4 24 (vx_MQ below (mQ D cA b0 ad (cnt ns nt) (okR (oMake a g S P nx))) (mX D cA b0 ad (cnt ns nt) (exR (oMake a g S P nx) [eIO, eIA, eUO, eIS])) args s 5 30 b0) 39 [(0, aO 0 0), (2, aI v), (3, aO 6 u), (4, aI n)] [] ad (cnt ns nt) M1 := by
    intro u v hau hgv hu hv1 hv2 ht hgi d
    have i6 : inD (cnt ns nt) 6 u := by
      show u < nt
      omega
    have i32 : inD (cnt ns nt) 32 u := i6
    have hok := ((giN_iff (nsS S)).mp hgi).2
    have n0 : ∀ {k : Nat}, k ≠ 4 → ¬ k = 4 := fun h => h
    induction d with
    | zero =>
      intro n M1 hn hF hlo hhi hs hM2
      have c3 : M1.1 0 0 3 = nsS S := by rw [(hF 0 0 (n0 (by decide))).1]; exact hRm.1
      have c61 : M1.1 6 u 1 = mdS S u := by rw [(hF 6 u (n0 (by decide))).1]; exact (hSt u hu).2
      have hm9 := hmd u
      refine w_iload C dX6_make_39 rfl ?_
      refine w_aload_n C dX6_make_41 rfl ?_
      refine g_X6_123 C dX6_make_42 (by first | assumption | exact Nat.zero_lt_one | exact Nat.zero_lt_two | exact Nat.one_lt_two) ?_
      refine w_icmp_ge C dX6_make_45 (by omega) (by omega) (fun h45 => ?_) (fun h45 => ?_)
      · refine w_aload_n C dX6_make_83 rfl ?_
        refine w_dup C dX6_make_84 rfl ?_
        refine g_X6_288 C dX6_make_85 (by first | assumption | exact Nat.zero_lt_one | exact Nat.zero_lt_two | exact Nat.one_lt_two) ?_
        rw [c61]
        refine w_iload_n C dX6_make_88 rfl ?_
        refine w_iadd C dX6_make_89 ?_
        refine p_X6_288 C dX6_make_90 (by first | assumption | exact Nat.zero_lt_one | exact Nat.zero_lt_two | exact Nat.one_lt_two) ?_
        refine w_aload_n C dX6_make_93 rfl ?_
        refine g_X6_288 C dX6_make_94 (by first | assumption | exact Nat.zero_lt_one | exact Nat.zero_lt_two | exact Nat.one_lt_two) ?_
        refine w_iret C hr dX6_make_97 rfl (by
            refine okR_of (v := (mdS S u : Int) + v) (S' := mkS S u v) (P' := P) (nx' := nx) (by unfold oMake; rw [hau, hgv, if_neg (by omega), if_neg (by omega), Int.toNat_natCast, Int.toNat_natCast, if_neg ht, if_neg (by omega)]) ?_ (RepRoom.mkk hI hZ (by omega) hok hR ((hF.mono (fun k i h => Or.inl h)).uI (Or.inr ⟨rfl, rfl⟩)) (fun j hj => ?_) (fun j s h1 h2 => ?_) (fun j => ?_) ?_)
            · refine congrArg (fun z : Int => some (aI z)) ?_
              rw [uI_eq]
            · rw [uI_ne (by omega), uI_ne (by omega)]
              exact hlo j (by omega)
            · rw [uI_ne (by omega)]
              exact hs j s h1 h2
            · show M1.2.2.1 4 j = M.2.2.1 4 j
              rw [hM2]
            · rw [uI_eq]
              rfl) (by decide) (by decide)
      · omega
    | succ d ih =>
      intro n M1 hn hF hlo hhi hs hM2
      have c3 : M1.1 0 0 3 = nsS S := by rw [(hF 0 0 (n0 (by decide))).1]; exact hRm.1
      have hRm1 : RepRm S M1 := RepRm.fr hF (n0 (by decide)) (n0 (by decide)) (n0 (by decide)) hRm
      have hj : n < nsS S := by omega
      have i4 : inD (cnt ns nt) 4 n := by
        show n < ns
        omega
      obtain ⟨b1, b2', b3⟩ := hSh n hj
      have hpa := (hI.1.2.2.2.2.2.2.2.2.2.1 n).1
      have hc4 := hI.1.2.2.2.2.2.2.2.2.2.2.1 u n
      have o8 := (hhi n (Nat.le_refl n)).1.trans b2'.1
      have o9 := (hhi n (Nat.le_refl n)).2.trans b2'.2.1
      have o1 := (hs n 1 (by decide) (by decide)).trans b1.2.1
      have hvn := hok n hj
      have e0 : (stS S n 0 : Int) - (v * ctS S u n : Nat) = stS (mkS S u v) n 0 := by rw [mk_0, if_pos hj]; have := hvn.1; omega
      have e1 : (if paS S n = 1 then (stS S n 1 : Int) - (v * ctS S u n : Nat) else (stS S n 1 : Int)) = stS (mkS S u v) n 1 := by
        rw [mk_1]
        by_cases hp : paS S n = 1
        · have := hvn.2 hp
          rw [if_pos hp, if_pos ⟨hj, hp⟩]
          omega
        · rw [if_neg hp, if_neg (fun q => hp q.2)]
      have K77 : ∀ M2 : Mem, M2 = (if paS S n = 1 then uI (uI M1 4 n 8 ((stS S n 0 : Int) - (v * ctS S u n : Nat))) 4 n 9 ((stS S n 1 : Int) - (v * ctS S u n : Nat)) else uI M1 4 n 8 ((stS S n 0 : Int) - (v * ctS S u n : Nat))) → Wm p l e (rmd 11 5 30) s m args below meth c 6 D cA b0 4 24 (vx_MQ below (mQ D cA b0 ad (cnt ns nt) (okR (oMake a g S P nx))) (mX D cA b0 ad (cnt ns nt) (exR (oMake a g S P nx) [eIO, eIA, eUO, eIS])) args s 5 30 b0) 77 [(0, aO 0 0), (2, aI v), (3, aO 6 u), (4, aI n)] [] ad (cnt ns nt) M2 := by
        intro M2 hM
        have hfr : Fr (fun k i => k = 4) M1 M2 := by
          rw [hM]
          split
          · exact Fr.uI (K := fun k i => k = 4) (Fr.uI (K := fun k i => k = 4) Fr.rf rfl) rfl
          · exact Fr.uI (K := fun k i => k = 4) Fr.rf rfl
        have hat : M2.1 4 n 8 = stS (mkS S u v) n 0 ∧ M2.1 4 n 9 = stS (mkS S u v) n 1 := by
          rw [hM, ← e0, ← e1]
          by_cases hp : paS S n = 1
          · rw [if_pos hp, if_pos hp, uI_ne (by omega), uI_eq, uI_eq]
            exact ⟨rfl, rfl⟩
          · rw [if_neg hp, if_neg hp, uI_eq, uI_ne (by omega)]
            exact ⟨rfl, o9⟩
        have hof : ∀ j s, j ≠ n ∨ s ≠ 8 ∧ s ≠ 9 → M2.1 4 j s = M1.1 4 j s := fun j s h => by
          rw [hM]
          split
          · rw [uI_ne (by omega), uI_ne (by omega)]
          · rw [uI_ne (by omega)]
        have hm2 : M2.2 = M1.2 := by
          rw [hM]
          split <;> rfl
        refine w_iinc C dX6_make_77 rfl (by decide) ?_
        refine w_goto C dX6_make_80 ?_
        refine Wm.lsub (lv' := [(0, aO 0 0), (2, aI v), (3, aO 6 u), (4, aI ((n + 1 : Nat) : Int))]) ⟨rfl, rfl, rfl, rfl, trivial⟩ (ih (n + 1) M2 (by omega) (hF.tr hfr) (fun j hj2 => ?_) (fun j hj2 => ?_) (fun j s h1 h2 => (hof j s (Or.inr ⟨h1, h2⟩)).trans (hs j s h1 h2)) (hm2.trans hM2))
        · by_cases hjn : j = n
          · rw [hjn]
            exact hat
          · rw [hof j 8 (Or.inl hjn), hof j 9 (Or.inl hjn)]
            exact hlo j (by omega)
        · rw [hof j 8 (Or.inl (by omega)), hof j 9 (Or.inl (by omega))]
          exact hhi j (by omega)
      refine w_iload C dX6_make_39 rfl ?_
      refine w_aload_n C dX6_make_41 rfl ?_
      refine g_X6_123 C dX6_make_42 (by first | assumption | exact Nat.zero_lt_one | exact Nat.zero_lt_two | exact Nat.one_lt_two) ?_
      refine w_icmp_ge C dX6_make_45 (by omega) (by omega) (fun h45 => ?_) (fun h45 => ?_)
      · omega
      · refine w_aload_n C dX6_make_48 rfl ?_
        refine w_iload C dX6_make_49 rfl ?_
        refine w_callV C dX6_make_51 (c_X6_shapeNumbered hl hI.1 hRm1 (n : Int) (by omega)) mX6_shapeNumbered vX6_shapeNumbered lk_X6_169 (by first | assumption | exact Nat.zero_lt_one | exact Nat.zero_lt_two | exact Nat.one_lt_two) rfl rfl rfl rfl ⟨by decide, by decide, by decide, by decide⟩ (Nat.le_of_ble_eq_true rfl) (fun _ _ h => h.elim) ⟨by decide, by decide⟩ (fun r_ M_ q51 => ?_)
        obtain ⟨rfl, rfl⟩ := q51
        rw [if_pos (by omega), Int.toNat_natCast]
        refine w_astore C dX6_make_54 (by decide) ?_
        refine w_aload C dX6_make_56 rfl ?_
        refine w_ifnull C dX6_make_58 (fun h58 => ?_) (fun h58 => ?_)
        · cases h58
        · refine w_aload C dX6_make_61 rfl ?_
          refine w_iload_n C dX6_make_63 rfl ?_
          refine w_aload_n C dX6_make_64 rfl ?_
          refine g_X6_285 C dX6_make_65 i6 ?_
          refine w_iload C dX6_make_68 rfl ?_
          refine w_callS C dX6_make_70 (c_X6_entry hl IA_32 i32 (n : Int) (by omega)) mX6_entry sX6_entry lk_X6_264 rfl rfl ⟨by decide, by decide, by decide, by decide⟩ (Nat.le_of_ble_eq_true rfl) (fun _ _ h => h.elim) ⟨by decide, by decide⟩ (fun r_ M_ q70 => ?_)
          obtain ⟨rfl, rfl⟩ := q70
          rw [rd_ok (by omega), (hF 32 u (n0 (by decide))).1, (hSt u hu).1 n (by omega)]
          refine w_imul C dX6_make_73 ?_
          refine Wm.top (v' := aI ((v * ctS S u n : Nat) : Int)) (congrArg aI (Int.natCast_mul _ _).symm) ?_
          refine w_callV C dX6_make_74 (c_X4_giveAwayN hl i4 (stS S n 0) (stS S n 1) (v * ctS S u n : Nat) (paS S n) hpa o8 o9 o1) mX4_giveAway vX4_giveAway lk_X6_419 (by first | assumption | exact Nat.zero_lt_one | exact Nat.zero_lt_two | exact Nat.one_lt_two) rfl rfl rfl rfl ⟨by decide, by decide, by decide, by decide⟩ (Nat.le_of_ble_eq_true rfl) (fun _ _ h => h.elim) ⟨by decide, by decide⟩ (fun r_ M2 q74 => ?_)
          obtain ⟨k74, rfl⟩ := q74
          exact Wm.lsub (lv' := [(0, aO 0 0), (2, aI v), (3, aO 6 u), (4, aI n)]) ⟨rfl, rfl, rfl, rfl, trivial⟩ (K77 M2 k74)
  refine w_aload_n C dX6_make_0 rfl ?_
  refine w_iload_n C dX6_make_1 rfl ?_
  refine w_callV C dX6_make_2 (c_X6_styleOrThrow hl hI.1 hRm a ha) mX6_styleOrThrow vX6_styleOrThrow lk_X6_279 (by first | assumption | exact Nat.zero_lt_one | exact Nat.zero_lt_two | exact Nat.one_lt_two) rfl rfl rfl rfl ⟨by decide, by decide, by decide, by decide⟩ (Nat.le_of_ble_eq_true rfl) X2 ⟨by decide, by decide⟩ (fun r_ M_ q2 => ?_)
  obtain ⟨rfl, hj, rfl⟩ := q2
  refine w_pop C dX6_make_5 rfl ?_
  refine w_iload_n C dX6_make_6 rfl ?_
  refine w_callS C dX6_make_7 (c_X6_checkGarments hl g hg) mX6_checkGarments sX6_checkGarments lk_X6_414 rfl rfl ⟨by decide, by decide, by decide, by decide⟩ (Nat.le_of_ble_eq_true rfl) (X7 hj) ⟨by decide, by decide⟩ (fun r_ M_ q7 => ?_)
  obtain ⟨rfl, hg1, rfl⟩ := q7
  refine w_aload_n C dX6_make_10 rfl ?_
  refine w_iload_n C dX6_make_11 rfl ?_
  refine w_callV C dX6_make_12 (c_X6_styleWithPartsOrThrow hl hI.1 hct hnt hSt hRm a ha) mX6_styleWithPartsOrThrow vX6_styleWithPartsOrThrow lk_X6_394 (by first | assumption | exact Nat.zero_lt_one | exact Nat.zero_lt_two | exact Nat.one_lt_two) rfl rfl rfl rfl ⟨by decide, by decide, by decide, by decide⟩ (Nat.le_of_ble_eq_true rfl) (X12 hj hg1) ⟨by decide, by decide⟩ (fun r_ M_ q12 => ?_)
  obtain ⟨rfl, ⟨-, ht⟩, rfl⟩ := q12
  have i6 : inD (cnt ns nt) 6 a.toNat := (show a.toNat < nt by omega)
  obtain ⟨u, rfl⟩ := Int.eq_ofNat_of_zero_le hj.1
  obtain ⟨v, rfl⟩ := Int.eq_ofNat_of_zero_le (show 0 ≤ g by omega)
  rw [Int.toNat_natCast] at ht i6 hgl
  refine w_astore_n C dX6_make_15 (by decide) ?_
  refine w_aload_n C dX6_make_16 rfl ?_
  refine w_aload_n C dX6_make_17 rfl ?_
  refine w_callV C dX6_make_18 (c_X6_garmentsInStock hl hI.1 hRm hSh hns i6 (hSt u (by omega)).1) mX6_garmentsInStock vX6_garmentsInStock lk_X6_397 (by first | assumption | exact Nat.zero_lt_one | exact Nat.zero_lt_two | exact Nat.one_lt_two) rfl rfl rfl rfl ⟨by decide, by decide, by decide, by decide⟩ (Nat.le_of_ble_eq_true rfl) (fun _ _ h => h.elim) ⟨by decide, by decide⟩ (fun r_ M_ q18 => ?_)
  obtain ⟨rfl, rfl⟩ := q18
  refine w_iload_n C dX6_make_21 rfl ?_
  refine w_icmp_ge C dX6_make_22 (by omega) (by omega) (fun h22 => ?_) (fun h22 => ?_)
  · refine w_iconst C dX6_make_36 ?_
    refine w_istore C dX6_make_37 (by decide) ?_
    exact Wm.lsub (lv' := [(0, aO 0 0), (2, aI v), (3, aO 6 u), (4, aI ((0 : Nat) : Int))]) ⟨rfl, rfl, rfl, rfl, trivial⟩ (L u v rfl rfl (by omega) (by omega) (by omega) ht (by omega) (nsS S) 0 _ (by omega) Fr.rf (fun j hj => absurd hj (Nat.not_lt_zero j)) (fun _ _ => ⟨rfl, rfl⟩) (fun _ _ _ _ => rfl) rfl)
  · refine w_throwW C tk_66_70 ts_417 dX6_make_25 dX6_make_28 dX6_make_29 dX6_make_32 dX6_make_35 ⟨by decide, by decide, by decide, by decide⟩ (Nat.le_of_ble_eq_true rfl) (exR_of (i := 3) (by unfold oMake; rw [if_neg (fun q => q hj), if_neg (fun q => q hg1), Int.toNat_natCast, if_neg ht, if_pos (by omega)]) rfl hR) (by decide) (by decide)
end Rm
