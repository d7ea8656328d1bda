/-! the room: nestedLength -/
section Rm
variable {l : Launch} {b0 : Nat → Prop} {ad : Ads} {ns nt : Nat} {M : Mem}
theorem c_X6_plainToNest (hl : l.stackTraces = false) {S : Sg} {P : List Pc} {nx : Nat} (hI : Inv S P nx) (hZ : InvZ S) (hR : RepRoom S P nx M) (hns : nsS S ≤ ns) (hnt : ntS S ≤ nt) (y j : Nat) (hy : y < ntS S) (hj : j < 8) : Con l b0 yX6_plainToNest cX6_plainToNest 6 (some .int) 2 0 0 [aO 0 0, aO 6 y, aI j] ad (cnt ns nt) M (fun r M' => M' = M ∧ r = some (aI (wnS S y (2 * j) : Nat))) noX := by
  have i6 : inD (cnt ns nt) 6 y := Nat.lt_of_lt_of_le hy hnt
  have i32 : inD (cnt ns nt) 32 y := Nat.lt_of_lt_of_le hy hnt
  have ec := (hR.2.2.2.1 y hy).1 j hj
  have hc4 := hI.1.2.2.2.2.2.2.2.2.2.2.1 y j
  have ef : M.1 1 0 2 = fdS S := hR.1.1.2.2.1
  have hf1 := hI.1.2.2.1
  have hwn : wnS S y (2 * j) = if fdS S = 1 ∧ paS S j = 0 then (ctS S y j + 1) / 2 else ctS S y j := by
    unfold wnS
    rw [if_pos (by omega), show 2 * j / 2 = j by omega]
  refine Con.of hl pl_X6 (Nat.le_of_ble_eq_true rfl) ?_
  intro D cA p e s m args below meth c C hr
  refine w_aload_n C dX6_plainToNest_0 rfl ?_
  refine w_iload_n C dX6_plainToNest_1 rfl ?_
  refine w_callV C dX6_plainToNest_2 (c_X6_shapeNumbered hl hI.1 hR.2.2.2.2.1 (j : Int) (by omega)) mX6_shapeNumbered vX6_shapeNumbered lk_X6_169 (by first | assumption | exact Nat.zero_lt_one | exact Nat.zero_lt_two | exact Nat.one_lt_two) rfl rfl rfl rfl ⟨by first | decide | (simp only [rmd]; omega), by first | decide | (simp only [rmd]; omega), by first | decide | (simp only [rmd]; omega), by first | decide | (simp only [rmd]; omega)⟩ (Nat.le_of_ble_eq_true rfl) (fun _ _ h => h.elim) ⟨by decide, by decide⟩ (fun r_ M_ q2 => ?_)
  obtain ⟨rfl, rfl⟩ := q2
  refine w_astore_n C dX6_plainToNest_5 (by decide) ?_
  refine w_aload_n C dX6_plainToNest_6 rfl ?_
  refine g_X6_285 C dX6_plainToNest_7 (by first | assumption | exact Nat.zero_lt_one | exact Nat.zero_lt_two | exact Nat.one_lt_two) ?_
  refine w_iload_n C dX6_plainToNest_10 rfl ?_
  refine w_callS C dX6_plainToNest_11 (c_X6_entry hl IA_32 i32 (j : Int) (by omega)) mX6_entry sX6_entry lk_X6_264 rfl rfl ⟨by first | decide | (simp only [rmd]; omega), by first | decide | (simp only [rmd]; omega), by first | decide | (simp only [rmd]; omega), by first | decide | (simp only [rmd]; omega)⟩ (Nat.le_of_ble_eq_true rfl) (fun _ _ h => h.elim) ⟨by decide, by decide⟩ (fun r_ M_ q11 => ?_)
  obtain ⟨rfl, rfl⟩ := q11
  rw [rd_ok (by omega), ec]
  by_cases hjn : j < nsS S
  · have i4 : inD (cnt ns nt) 4 j := Nat.lt_of_lt_of_le hjn hns
    have ep : M_.1 4 j 1 = paS S j := (hR.2.1 j hjn).1.2.1
    have hp1 := (hI.1.2.2.2.2.2.2.2.2.2.1 j).1
    rw [if_pos (by omega), Int.toNat_natCast]
    refine w_istore C dX6_plainToNest_14 (by decide) ?_
    refine w_aload_n C dX6_plainToNest_16 rfl ?_
    refine g_X6_12 C dX6_plainToNest_17 (by first | assumption | exact Nat.zero_lt_one | exact Nat.zero_lt_two | exact Nat.one_lt_two) ?_
    refine g_X6_83 C dX6_plainToNest_20 (by first | assumption | exact Nat.zero_lt_one | exact Nat.zero_lt_two | exact Nat.one_lt_two) ?_
    rw [ef]
    refine w_if_eq C dX6_plainToNest_23 (by omega) (fun h23 => ?_) (fun h23 => ?_)
    · refine w_iconst C dX6_plainToNest_41 ?_
      refine w_istore C dX6_plainToNest_42 (by decide) ?_
      refine w_iload C dX6_plainToNest_44 rfl ?_
      refine w_if_eq C dX6_plainToNest_46 (by omega) (fun h46 => ?_) (fun h46 => ?_)
      · refine w_iload C dX6_plainToNest_58 rfl ?_
        refine w_iret C hr dX6_plainToNest_60 rfl (⟨rfl, by rw [hwn, if_neg (by omega)]⟩) (by decide) (by decide)
      · omega
    · refine w_aload_n C dX6_plainToNest_26 rfl ?_
      refine w_ifnull C dX6_plainToNest_27 (fun h27 => ?_) (fun h27 => ?_)
      · cases h27
      · refine w_aload_n C dX6_plainToNest_30 rfl ?_
        refine g_X6_312 C dX6_plainToNest_31 (by first | assumption | exact Nat.zero_lt_one | exact Nat.zero_lt_two | exact Nat.one_lt_two) ?_
        rw [ep]
        refine w_if_ne C dX6_plainToNest_34 (by omega) (fun h34 => ?_) (fun h34 => ?_)
        · refine w_iconst C dX6_plainToNest_41 ?_
          refine w_istore C dX6_plainToNest_42 (by decide) ?_
          refine w_iload C dX6_plainToNest_44 rfl ?_
          refine w_if_eq C dX6_plainToNest_46 (by omega) (fun h46 => ?_) (fun h46 => ?_)
          · refine w_iload C dX6_plainToNest_58 rfl ?_
            refine w_iret C hr dX6_plainToNest_60 rfl (⟨rfl, by rw [hwn, if_neg (by omega)]⟩) (by decide) (by decide)
          · omega
        · refine w_iconst C dX6_plainToNest_37 ?_
          refine w_goto C dX6_plainToNest_38 ?_
          refine w_istore C dX6_plainToNest_42 (by decide) ?_
          refine w_iload C dX6_plainToNest_44 rfl ?_
          refine w_if_eq C dX6_plainToNest_46 (by omega) (fun h46 => ?_) (fun h46 => ?_)
          · omega
          · refine w_iload C dX6_plainToNest_49 rfl ?_
            refine w_iconst C dX6_plainToNest_51 ?_
            refine w_iadd C dX6_plainToNest_52 ?_
            refine w_iconst C dX6_plainToNest_53 ?_
            refine w_idiv C dX6_plainToNest_54 (by omega) (by omega) ?_
            refine w_goto C dX6_plainToNest_55 ?_
            refine w_iret C hr dX6_plainToNest_60 rfl (⟨rfl, congrArg (fun z : Int => some (aI z)) (by rw [hwn, if_pos (by omega)]; omega)⟩) (by decide) (by decide)
  · obtain ⟨z1, z2, z3, z4, z5, z6, z7, z8, z9, z10⟩ := hZ.1 j (by omega)
    have hw0 : wnS S y (2 * j) = 0 := by
      rw [hwn, z10 y]
      split <;> rfl
    rw [if_neg (by omega), z10 y]
    refine w_istore C dX6_plainToNest_14 (by decide) ?_
    refine w_aload_n C dX6_plainToNest_16 rfl ?_
    refine g_X6_12 C dX6_plainToNest_17 (by first | assumption | exact Nat.zero_lt_one | exact Nat.zero_lt_two | exact Nat.one_lt_two) ?_
    refine g_X6_83 C dX6_plainToNest_20 (by first | assumption | exact Nat.zero_lt_one | exact Nat.zero_lt_two | exact Nat.one_lt_two) ?_
    rw [ef]
    refine w_if_eq C dX6_plainToNest_23 (by omega) (fun h23 => ?_) (fun h23 => ?_)
    · refine w_iconst C dX6_plainToNest_41 ?_
      refine w_istore C dX6_plainToNest_42 (by decide) ?_
      refine w_iload C dX6_plainToNest_44 rfl ?_
      refine w_if_eq C dX6_plainToNest_46 (by omega) (fun h46 => ?_) (fun h46 => ?_)
      · refine w_iload C dX6_plainToNest_58 rfl ?_
        refine w_iret C hr dX6_plainToNest_60 rfl (⟨rfl, by rw [hw0]⟩) (by decide) (by decide)
      · omega
    · refine w_aload_n C dX6_plainToNest_26 rfl ?_
      refine w_ifnull C dX6_plainToNest_27 (fun h27 => ?_) (fun h27 => ?_)
      · refine w_iconst C dX6_plainToNest_41 ?_
        refine w_istore C dX6_plainToNest_42 (by decide) ?_
        refine w_iload C dX6_plainToNest_44 rfl ?_
        refine w_if_eq C dX6_plainToNest_46 (by omega) (fun h46 => ?_) (fun h46 => ?_)
        · refine w_iload C dX6_plainToNest_58 rfl ?_
          refine w_iret C hr dX6_plainToNest_60 rfl (⟨rfl, by rw [hw0]⟩) (by decide) (by decide)
        · omega
      · obtain ⟨_, h27⟩ := h27
        cases h27
theorem c_X6_mirroredToNest (hl : l.stackTraces = false) {S : Sg} {P : List Pc} {nx : Nat} (hI : Inv S P nx) (hZ : InvZ S) (hR : RepRoom S P nx M) (hns : nsS S ≤ ns) (hnt : ntS S ≤ nt) (y j : Nat) (hy : y < ntS S) (hj : j < 8) : Con l b0 yX6_mirroredToNest cX6_mirroredToNest 4 (some .int) 2 0 0 [aO 0 0, aO 6 y, aI j] ad (cnt ns nt) M (fun r M' => M' = M ∧ r = some (aI (wnS S y (2 * j + 1) : Nat))) noX := by
  have i6 : inD (cnt ns nt) 6 y := Nat.lt_of_lt_of_le hy hnt
  have i32 : inD (cnt ns nt) 32 y := Nat.lt_of_lt_of_le hy hnt
  have ec := (hR.2.2.2.1 y hy).1 j hj
  have hc4 := hI.1.2.2.2.2.2.2.2.2.2.2.1 y j
  have ef : M.1 1 0 2 = fdS S := hR.1.1.2.2.1
  have hf1 := hI.1.2.2.1
  have hwn : wnS S y (2 * j + 1) = if paS S j = 1 ∧ fdS S = 0 then ctS S y j else 0 := by
    unfold wnS
    rw [if_neg (by omega), show (2 * j + 1) / 2 = j by omega]
  refine Con.of hl pl_X6 (Nat.le_of_ble_eq_true rfl) ?_
  intro D cA p e s m args below meth c C hr
  refine w_aload_n C dX6_mirroredToNest_0 rfl ?_
  refine w_iload_n C dX6_mirroredToNest_1 rfl ?_
  refine w_callV C dX6_mirroredToNest_2 (c_X6_shapeNumbered hl hI.1 hR.2.2.2.2.1 (j : Int) (by omega)) mX6_shapeNumbered vX6_shapeNumbered lk_X6_169 (by first | assumption | exact Nat.zero_lt_one | exact Nat.zero_lt_two | exact Nat.one_lt_two) rfl rfl rfl rfl ⟨by first | decide | (simp only [rmd]; omega), by first | decide | (simp only [rmd]; omega), by first | decide | (simp only [rmd]; omega), by first | decide | (simp only [rmd]; omega)⟩ (Nat.le_of_ble_eq_true rfl) (fun _ _ h => h.elim) ⟨by decide, by decide⟩ (fun r_ M_ q2 => ?_)
  obtain ⟨rfl, rfl⟩ := q2
  by_cases hjn : j < nsS S
  · have i4 : inD (cnt ns nt) 4 j := Nat.lt_of_lt_of_le hjn hns
    have ep : M_.1 4 j 1 = paS S j := (hR.2.1 j hjn).1.2.1
    have hp1 := (hI.1.2.2.2.2.2.2.2.2.2.1 j).1
    rw [if_pos (by omega), Int.toNat_natCast]
    refine w_astore_n C dX6_mirroredToNest_5 (by decide) ?_
    refine w_aload_n C dX6_mirroredToNest_6 rfl ?_
    refine w_ifnull C dX6_mirroredToNest_7 (fun h7 => ?_) (fun h7 => ?_)
    · cases h7
    · refine w_aload_n C dX6_mirroredToNest_10 rfl ?_
      refine g_X6_312 C dX6_mirroredToNest_11 (by first | assumption | exact Nat.zero_lt_one | exact Nat.zero_lt_two | exact Nat.one_lt_two) ?_
      rw [ep]
      refine w_if_eq C dX6_mirroredToNest_14 (by omega) (fun h14 => ?_) (fun h14 => ?_)
      · refine w_iconst C dX6_mirroredToNest_38 ?_
        refine w_iret C hr dX6_mirroredToNest_39 rfl (⟨rfl, by rw [hwn, if_neg (by omega)]; rfl⟩) (by decide) (by decide)
      · refine w_aload_n C dX6_mirroredToNest_17 rfl ?_
        refine g_X6_12 C dX6_mirroredToNest_18 (by first | assumption | exact Nat.zero_lt_one | exact Nat.zero_lt_two | exact Nat.one_lt_two) ?_
        refine g_X6_83 C dX6_mirroredToNest_21 (by first | assumption | exact Nat.zero_lt_one | exact Nat.zero_lt_two | exact Nat.one_lt_two) ?_
        rw [ef]
        refine w_if_ne C dX6_mirroredToNest_24 (by omega) (fun h24 => ?_) (fun h24 => ?_)
        · refine w_iconst C dX6_mirroredToNest_38 ?_
          refine w_iret C hr dX6_mirroredToNest_39 rfl (⟨rfl, by rw [hwn, if_neg (by omega)]; rfl⟩) (by decide) (by decide)
        · refine w_aload_n C dX6_mirroredToNest_27 rfl ?_
          refine g_X6_285 C dX6_mirroredToNest_28 (by first | assumption | exact Nat.zero_lt_one | exact Nat.zero_lt_two | exact Nat.one_lt_two) ?_
          refine w_iload_n C dX6_mirroredToNest_31 rfl ?_
          refine w_callS C dX6_mirroredToNest_32 (c_X6_entry hl IA_32 i32 (j : Int) (by omega)) mX6_entry sX6_entry lk_X6_264 rfl rfl ⟨by first | decide | (simp only [rmd]; omega), by first | decide | (simp only [rmd]; omega), by first | decide | (simp only [rmd]; omega), by first | decide | (simp only [rmd]; omega)⟩ (Nat.le_of_ble_eq_true rfl) (fun _ _ h => h.elim) ⟨by decide, by decide⟩ (fun r_ M_ q32 => ?_)
          obtain ⟨rfl, rfl⟩ := q32
          rw [rd_ok (by omega), ec]
          refine w_goto C dX6_mirroredToNest_35 ?_
          refine w_iret C hr dX6_mirroredToNest_39 rfl (⟨rfl, by rw [hwn, if_pos (by omega)]⟩) (by decide) (by decide)
  · obtain ⟨z1, z2, z3, z4, z5, z6, z7, z8, z9, z10⟩ := hZ.1 j (by omega)
    rw [if_neg (by omega)]
    refine w_astore_n C dX6_mirroredToNest_5 (by decide) ?_
    refine w_aload_n C dX6_mirroredToNest_6 rfl ?_
    refine w_ifnull C dX6_mirroredToNest_7 (fun h7 => ?_) (fun h7 => ?_)
    · refine w_iconst C dX6_mirroredToNest_38 ?_
      refine w_iret C hr dX6_mirroredToNest_39 rfl (⟨rfl, by rw [hwn, if_neg (by omega)]; rfl⟩) (by decide) (by decide)
    · obtain ⟨_, h7⟩ := h7
      cases h7
theorem c_X6_lengthOrThrow (hl : l.stackTraces = false) (v : Nat) (hv : v ≤ 61) : Con l b0 yX6_lengthOrThrow cX6_lengthOrThrow 1 (some .int) 9 1 6 [aI v] ad (cnt ns nt) M (fun r M' => M' = M ∧ v < 61 ∧ r = some (aI v)) (fun E M' => E = eIS ∧ M' = M ∧ 61 ≤ v) := by
  refine Con.of hl pl_X6 (Nat.le_of_ble_eq_true rfl) ?_
  intro D cA p e s m args below meth c C hr
  refine w_iload_n C dX6_lengthOrThrow_0 rfl ?_
  refine w_bipush (v := 61) C dX6_lengthOrThrow_1 rfl ?_
  refine w_icmp_lt C dX6_lengthOrThrow_3 (by omega) (by omega) (fun h3 => ?_) (fun h3 => ?_)
  · refine w_iload_n C dX6_lengthOrThrow_17 rfl ?_
    refine w_iret C hr dX6_lengthOrThrow_18 rfl (⟨rfl, by omega, rfl⟩) (by decide) (by decide)
  · refine w_throwW C tk_66_70 ts_332 dX6_lengthOrThrow_6 dX6_lengthOrThrow_9 dX6_lengthOrThrow_10 dX6_lengthOrThrow_13 dX6_lengthOrThrow_16 ⟨by decide, by decide, by decide, by decide⟩ (Nat.le_of_ble_eq_true rfl) (⟨rfl, rfl, by omega⟩) (by decide) (by decide)
theorem sum16 (f : Nat → Nat) (j : Nat) : sumN f (2 * (j + 1)) = sumN f (2 * j) + f (2 * j) + f (2 * j + 1) := rfl
theorem wn4 {S : Sg} {P : List Pc} {nx : Nat} (hI : Inv S P nx) (y k : Nat) : wnS S y k ≤ 4 := by
  have h := hI.1.2.2.2.2.2.2.2.2.2.2.1 y (k / 2)
  unfold wnS
  split <;> split <;> omega
theorem c_X6_wantPieces (hl : l.stackTraces = false) {S : Sg} {P : List Pc} {nx : Nat} (hI : Inv S P nx) (hZ : InvZ S) (hR : RepRoom S P nx M) (hns : nsS S ≤ ns) (hnt : ntS S ≤ nt) (y : Nat) (hy : y < ntS S) : Con l b0 yX6_wantPieces cX6_wantPieces 6 (some .int) 9 1 6 [aO 0 0, aO 6 y] ad (cnt ns nt) M (fun r M' => Fr tK M M' ∧ M'.2.1 12 1 = M.2.1 12 1 ∧ Wt (wnS S y) M' ∧ (1 ≤ nwS S y ∧ nwS S y ≤ 4) ∧ r = some (aI (nwS S y : Nat))) (fun E M' => E = eUO ∧ Fr tK M M' ∧ M'.2.1 12 1 = M.2.1 12 1 ∧ ¬ (1 ≤ nwS S y ∧ nwS S y ≤ 4)) := by
  have i27 : inD (cnt ns nt) 27 0 := Nat.zero_lt_one
  have b4 := wn4 (S := S) hI y
  have bS : ∀ n, n ≤ 16 → sumN (wnS S y) n ≤ 64 := fun n hn => Nat.le_trans (sumN_le (b := 4) fun i _ => b4 i) (by omega)
  have keep : ∀ {M1 : Mem}, Fr (fun k i => k = 27 ∧ i = 0) M M1 → RepRoom S P nx M1 := fun h => by
    have nK : ∀ k i, k ≠ 27 → ¬ (k = 27 ∧ i = 0) := fun k i h g => h g.1
    obtain ⟨r1, r2, r3, r4, r5, ff, t1, t2⟩ := hR
    exact ⟨r1.fr h (nK _ _ (by omega)) (nK _ _ (by omega)) (nK _ _ (by omega)), r2.fr h (fun i => ⟨nK _ _ (by omega), nK _ _ (by omega), nK _ _ (by omega), nK _ _ (by omega), nK _ _ (by omega)⟩), RepMk.fr hI.2.2.1 h ⟨nK _ _ (by omega), nK _ _ (by omega), nK _ _ (by omega), nK _ _ (by omega), nK _ _ (by omega), nK _ _ (by omega)⟩ (fun _ _ => nK _ _ (by omega)) r3, r4.fr h (fun i => ⟨nK _ _ (by omega), nK _ _ (by omega)⟩), r5.fr h (nK _ _ (by omega)) (nK _ _ (by omega)) (nK _ _ (by omega)), ff, fun i hi => by rw [(h 12 1 (nK _ _ (by omega))).2.1]; exact t1 i hi, t2⟩
  have toT : ∀ {M1 : Mem}, Fr (fun k i => k = 27 ∧ i = 0) M M1 → Fr tK M M1 := fun h => h.mono (fun k i g => Or.inr (Or.inl g))
  refine Con.of hl pl_X6 (Nat.le_of_ble_eq_true rfl) ?_
  intro D cA p e s m args below meth c C hr
  have body : ∀ (d j : Nat) (M1 : Mem), j + d = 8 → Fr (fun k i => k = 27 ∧ i = 0) M M1 → (∀ k, k < 2 * j → M1.1 27 0 k = wnS S y k) → Wm p l e (rmd 9 1 6) s m args below meth c 6 D cA b0 0 0 (vx_MQ below (mQ D cA b0 ad (cnt ns nt) (fun r M' => Fr tK M M' ∧ M'.2.1 12 1 = M.2.1 12 1 ∧ Wt (wnS S y) M' ∧ (1 ≤ nwS S y ∧ nwS S y ≤ 4) ∧ r = some (aI (nwS S y : Nat)))) (mX D cA b0 ad (cnt ns nt) (fun E M' => E = eUO ∧ Fr tK M M' ∧ M'.2.1 12 1 = M.2.1 12 1 ∧ ¬ (1 ≤ nwS S y ∧ nwS S y ≤ 4))) args s 1 6 b0) 4 [(0, aO 0 0), (1, aO 6 y), (2, aI (sumN (wnS S y) (2 * j) : Nat)), (3, aI j)] [] ad (cnt ns nt) M1 := by
    intro d
    induction d with
    | zero =>
      intro j M1 hj hF hW
      obtain rfl : j = 8 := by omega
      have hb : sumN (wnS S y) (2 * 8) ≤ 64 := bS 16 (by omega)
      have e16 : nwS S y = sumN (wnS S y) (2 * 8) := rfl
      refine w_iload_n C dX6_wantPieces_4 rfl ?_
      refine w_bipush (v := 8) C dX6_wantPieces_5 rfl ?_
      refine w_icmp_ge C dX6_wantPieces_7 (by omega) (by omega) (fun h7 => ?_) (fun h7 => ?_)
      · refine w_iload_n C dX6_wantPieces_68 rfl ?_
        refine w_iconst C dX6_wantPieces_69 ?_
        refine w_iconst C dX6_wantPieces_70 ?_
        refine w_callS C dX6_wantPieces_71 (c_X6_isWithin hl (sumN (wnS S y) (2 * 8) : Nat) 1 4 (by omega) (by omega) (by omega)) mX6_isWithin sX6_isWithin lk_X6_48 rfl rfl ⟨by first | decide | (simp only [rmd]; omega), by first | decide | (simp only [rmd]; omega), by first | decide | (simp only [rmd]; omega), by first | decide | (simp only [rmd]; omega)⟩ (Nat.le_of_ble_eq_true rfl) (fun _ _ h => h.elim) ⟨by decide, by decide⟩ (fun r_ M_ q71 => ?_)
        obtain ⟨rfl, rfl⟩ := q71
        have b1 := b2_01 (1 ≤ ((sumN (wnS S y) (2 * 8) : Nat) : Int) ∧ ((sumN (wnS S y) (2 * 8) : Nat) : Int) ≤ 4)
        refine w_if_ne C dX6_wantPieces_74 (by omega) (fun h74 => ?_) (fun h74 => ?_)
        · have y1 := b2_n0 h74
          refine w_iload_n C dX6_wantPieces_88 rfl ?_
          refine w_iret C hr dX6_wantPieces_89 rfl (⟨toT hF, (hF 12 1 (by omega)).2.1, fun k hk => hW k (by omega), by omega, rfl⟩) (by decide) (by decide)
        · have y1 := b2_is0 (Decidable.not_not.mp h74)
          refine w_throwW C tk_96_100 ts_344 dX6_wantPieces_77 dX6_wantPieces_80 dX6_wantPieces_81 dX6_wantPieces_84 dX6_wantPieces_87 ⟨by decide, by decide, by decide, by decide⟩ (Nat.le_of_ble_eq_true rfl) (⟨rfl, toT hF, (hF 12 1 (by omega)).2.1, by omega⟩) (by decide) (by decide)
      · omega
    | succ d ih =>
      intro j M1 hj hF hW
      have hR1 := keep hF
      have e1 := b4 (2 * j)
      have e2 := b4 (2 * j + 1)
      have hb := bS (2 * j) (by omega)
      refine w_iload_n C dX6_wantPieces_4 rfl ?_
      refine w_bipush (v := 8) C dX6_wantPieces_5 rfl ?_
      refine w_icmp_ge C dX6_wantPieces_7 (by omega) (by omega) (fun h7 => ?_) (fun h7 => ?_)
      · omega
      · refine w_aload_n C dX6_wantPieces_10 rfl ?_
        refine w_aload_n C dX6_wantPieces_11 rfl ?_
        refine w_iload_n C dX6_wantPieces_12 rfl ?_
        refine w_callV C dX6_wantPieces_13 (c_X6_plainToNest hl hI hZ hR1 hns hnt y j hy (by omega)) mX6_plainToNest vX6_plainToNest lk_X6_334 (by first | assumption | exact Nat.zero_lt_one | exact Nat.zero_lt_two | exact Nat.one_lt_two) rfl rfl rfl rfl ⟨by first | decide | (simp only [rmd]; omega), by first | decide | (simp only [rmd]; omega), by first | decide | (simp only [rmd]; omega), by first | decide | (simp only [rmd]; omega)⟩ (Nat.le_of_ble_eq_true rfl) (fun _ _ h => h.elim) ⟨by decide, by decide⟩ (fun r_ M_ q13 => ?_)
        obtain ⟨rfl, rfl⟩ := q13
        refine w_istore C dX6_wantPieces_16 (by decide) ?_
        refine w_aload_n C dX6_wantPieces_18 rfl ?_
        refine w_aload_n C dX6_wantPieces_19 rfl ?_
        refine w_iload_n C dX6_wantPieces_20 rfl ?_
        refine w_callV C dX6_wantPieces_21 (c_X6_mirroredToNest hl hI hZ hR1 hns hnt y j hy (by omega)) mX6_mirroredToNest vX6_mirroredToNest lk_X6_337 (by first | assumption | exact Nat.zero_lt_one | exact Nat.zero_lt_two | exact Nat.one_lt_two) rfl rfl rfl rfl ⟨by first | decide | (simp only [rmd]; omega), by first | decide | (simp only [rmd]; omega), by first | decide | (simp only [rmd]; omega), by first | decide | (simp only [rmd]; omega)⟩ (Nat.le_of_ble_eq_true rfl) (fun _ _ h => h.elim) ⟨by decide, by decide⟩ (fun r_ M_ q21 => ?_)
        obtain ⟨rfl, rfl⟩ := q21
        refine w_istore C dX6_wantPieces_24 (by decide) ?_
        refine w_aload_n C dX6_wantPieces_26 rfl ?_
        refine g_X6_38 C dX6_wantPieces_27 (by first | assumption | exact Nat.zero_lt_one | exact Nat.zero_lt_two | exact Nat.one_lt_two) ?_
        refine w_iload_n C dX6_wantPieces_30 rfl ?_
        refine w_iconst C dX6_wantPieces_31 ?_
        refine w_callS C dX6_wantPieces_32 (c_X6_kindOf hl (j : Int) 0 (Or.inl rfl)) mX6_kindOf sX6_kindOf lk_X6_340 rfl rfl ⟨by first | decide | (simp only [rmd]; omega), by first | decide | (simp only [rmd]; omega), by first | decide | (simp only [rmd]; omega), by first | decide | (simp only [rmd]; omega)⟩ (Nat.le_of_ble_eq_true rfl) (fun _ _ h => h.elim) ⟨by decide, by decide⟩ (fun r_ M_ q32 => ?_)
        obtain ⟨rfl, rfl⟩ := q32
        refine Wm.top (v' := aI ((2 * j : Nat) : Int)) (congrArg aI (by omega)) ?_
        refine w_iload C dX6_wantPieces_35 rfl ?_
        refine w_callS C dX6_wantPieces_37 (c_X6_store hl IA_27 i27 ((2 * j : Nat) : Int) (wnS S y (2 * j) : Nat) (by omega)) mX6_store sX6_store lk_X6_293 rfl rfl ⟨by first | decide | (simp only [rmd]; omega), by first | decide | (simp only [rmd]; omega), by first | decide | (simp only [rmd]; omega), by first | decide | (simp only [rmd]; omega)⟩ (Nat.le_of_ble_eq_true rfl) (fun _ _ h => h.elim) ⟨by decide, by decide⟩ (fun r_ M2 q37 => ?_)
        obtain ⟨q37, rfl⟩ := q37
        rw [wr_ok (by omega)] at q37
        subst q37
        refine w_aload_n C dX6_wantPieces_40 rfl ?_
        refine g_X6_38 C dX6_wantPieces_41 (by first | assumption | exact Nat.zero_lt_one | exact Nat.zero_lt_two | exact Nat.one_lt_two) ?_
        refine w_iload_n C dX6_wantPieces_44 rfl ?_
        refine w_iconst C dX6_wantPieces_45 ?_
        refine w_callS C dX6_wantPieces_46 (c_X6_kindOf hl (j : Int) 1 (Or.inr rfl)) mX6_kindOf sX6_kindOf lk_X6_340 rfl rfl ⟨by first | decide | (simp only [rmd]; omega), by first | decide | (simp only [rmd]; omega), by first | decide | (simp only [rmd]; omega), by first | decide | (simp only [rmd]; omega)⟩ (Nat.le_of_ble_eq_true rfl) (fun _ _ h => h.elim) ⟨by decide, by decide⟩ (fun r_ M_ q46 => ?_)
        obtain ⟨e46, rfl⟩ := q46
        subst e46
        refine Wm.top (v' := aI ((2 * j + 1 : Nat) : Int)) (congrArg aI (by omega)) ?_
        refine w_iload C dX6_wantPieces_49 rfl ?_
        refine w_callS C dX6_wantPieces_51 (c_X6_store hl IA_27 i27 ((2 * j + 1 : Nat) : Int) (wnS S y (2 * j + 1) : Nat) (by omega)) mX6_store sX6_store lk_X6_293 rfl rfl ⟨by first | decide | (simp only [rmd]; omega), by first | decide | (simp only [rmd]; omega), by first | decide | (simp only [rmd]; omega), by first | decide | (simp only [rmd]; omega)⟩ (Nat.le_of_ble_eq_true rfl) (fun _ _ h => h.elim) ⟨by decide, by decide⟩ (fun r_ M3 q51 => ?_)
        obtain ⟨q51, rfl⟩ := q51
        rw [wr_ok (by omega)] at q51
        subst q51
        refine w_iload_n C dX6_wantPieces_54 rfl ?_
        refine w_iload C dX6_wantPieces_55 rfl ?_
        refine w_iload C dX6_wantPieces_57 rfl ?_
        refine w_iadd C dX6_wantPieces_59 ?_
        refine w_iadd C dX6_wantPieces_60 ?_
        refine w_istore_n C dX6_wantPieces_61 (by decide) ?_
        refine w_iinc C dX6_wantPieces_62 rfl (by decide) ?_
        refine w_goto C dX6_wantPieces_65 ?_
        refine Wm.lsub (lv' := [(0, aO 0 0), (1, aO 6 y), (2, aI (sumN (wnS S y) (2 * (j + 1)) : Nat)), (3, aI ((j + 1 : Nat) : Int))]) ⟨rfl, rfl, ?_, rfl, trivial⟩ (ih (j + 1) _ (by omega) ((hF.uI ⟨rfl, rfl⟩).uI ⟨rfl, rfl⟩) (fun k hk => ?_))
        · refine congrArg (fun z : Int => some (aI z)) ?_
          rw [sum16]
          omega
        · rw [uI_get]
          by_cases k1 : k = 2 * j + 1
          · rw [if_pos ⟨rfl, rfl, k1⟩, k1]
          · rw [if_neg (fun g => k1 g.2.2), uI_get]
            by_cases k0 : k = 2 * j
            · rw [if_pos ⟨rfl, rfl, k0⟩, k0]
            · rw [if_neg (fun g => k0 g.2.2)]
              exact hW k (by omega)
  refine w_iconst C dX6_wantPieces_0 ?_
  refine w_istore_n C dX6_wantPieces_1 (by decide) ?_
  refine w_iconst C dX6_wantPieces_2 ?_
  refine w_istore_n C dX6_wantPieces_3 (by decide) ?_
  exact Wm.lsub (lv' := [(0, aO 0 0), (1, aO 6 y), (2, aI (sumN (wnS S y) (2 * 0) : Nat)), (3, aI ((0 : Nat) : Int))]) ⟨rfl, rfl, rfl, rfl, trivial⟩ (body 8 0 M (by omega) Fr.rf (fun k hk => by omega))
theorem RepRoom.tr {S : Sg} {P : List Pc} {nx q : Nat} {Q : List Pc} {M M' : Mem} (hR : RepRoom S P nx M) (hI : Inv S P nx) (h : Fr tK M M') (hT : RepMk 1 S Q q M') : RepRoom S P nx M' := by
  have hB := RB.fr ⟨hR.1, hR.2.1, hR.2.2.2.2.1⟩ h
  have n0 : ∀ k, ¬ (k = 3 ∨ k = 27 ∨ k = 28) → ¬ tK k 0 := fun k hk q => by
    unfold tK mkK at q
    omega
  have n3 : ∀ i, i < 40 → ¬ tK 3 (40 * 0 + i) := fun i hi q => by
    unfold tK mkK at q
    omega
  obtain ⟨f, -, -, ⟨g1, g2, -⟩, -⟩ := hT
  exact ⟨hB.1, hB.2.1, RepMk.fr hI.2.2.1 h ⟨n0 _ (by omega), n0 _ (by omega), n0 _ (by omega), n0 _ (by omega), n0 _ (by omega), n0 _ (by omega)⟩ n3 hR.2.2.1, hR.2.2.2.1.fr h (fun i => ⟨fun q => by unfold tK mkK at q; omega, fun q => by unfold tK mkK at q; omega⟩), hB.2.2, f, g1, g2⟩
theorem c_X6_nestedLength (hl : l.stackTraces = false) {S : Sg} {P : List Pc} {nx : Nat} (hI : Inv S P nx) (hZ : InvZ S) (hR : RepRoom S P nx M) (hns : nsS S ≤ ns) (hnt : ntS S ≤ nt) (a : Int) (ha : -2147483648 ≤ a ∧ a ≤ 2147483647) : Con l b0 yX6_nestedLength cX6_nestedLength 3 (some .int) 17 3 18 [aO 0 0, aI a] ad (cnt ns nt) M (okR (oNested a S P nx)) (exR (oNested a S P nx) [eIO, eUO, eIS]) := by
  have i21 : inD (cnt ns nt) 2 1 := Nat.one_lt_two
  have T1 : ¬ (0 ≤ a ∧ a < ntS S) → exR (oNested a S P nx) [eIO, eUO, eIS] eIO M := fun h => ⟨0, rfl, by unfold oNested; rw [if_pos h], by unfold oNested; rw [if_pos h]; exact hR⟩
  have T2 : ∀ M', (0 ≤ a ∧ a < ntS S) → ¬ (1 ≤ nwS S a.toNat ∧ nwS S a.toNat ≤ 4) → RepRoom S P nx M' → exR (oNested a S P nx) [eIO, eUO, eIS] eUO M' := fun M' h1 h2 h3 => by
    have e : oNested a S P nx = (2, 0, S, P, nx) := by unfold oNested; rw [if_neg (fun q => q h1), if_pos h2]
    exact ⟨1, rfl, by rw [e], by rw [e]; exact h3⟩
  have T3 : ∀ M', (0 ≤ a ∧ a < ntS S) → (1 ≤ nwS S a.toNat ∧ nwS S a.toNat ≤ 4) → 61 ≤ leastS S a.toNat → RepRoom S P nx M' → exR (oNested a S P nx) [eIO, eUO, eIS] eIS M' := fun M' h1 h2 h3 h4 => by
    have e : oNested a S P nx = (3, 0, S, P, nx) := by unfold oNested; rw [if_neg (fun q => q h1), if_neg (fun q => q h2), if_pos h3]
    exact ⟨2, rfl, by rw [e], by rw [e]; exact h4⟩
  have T0 : ∀ M', (0 ≤ a ∧ a < ntS S) → (1 ≤ nwS S a.toNat ∧ nwS S a.toNat ≤ 4) → leastS S a.toNat < 61 → RepRoom S P nx M' → okR (oNested a S P nx) (some (aI (leastS S a.toNat : Nat))) M' := fun M' h1 h2 h3 h4 => by
    have e : oNested a S P nx = (0, (leastS S a.toNat : Int), S, P, nx) := by unfold oNested; rw [if_neg (fun q => q h1), if_neg (fun q => q h2), if_neg (by omega)]
    exact ⟨by rw [e], by rw [e], by rw [e]; exact h4⟩
  have X2 : ∀ {M' : Mem}, Fr tK M M' → M'.2.1 12 1 = M.2.1 12 1 → RepRoom S P nx M' := fun h h12 => by
    have hB := RB.fr ⟨hR.1, hR.2.1, hR.2.2.2.2.1⟩ h
    have n0 : ∀ k, ¬ (k = 3 ∨ k = 27 ∨ k = 28) → ¬ tK k 0 := fun k hk q => by
      unfold tK mkK at q
      omega
    have n3 : ∀ i, i < 40 → ¬ tK 3 (40 * 0 + i) := fun i hi q => by
      unfold tK mkK at q
      omega
    obtain ⟨f, g1, g2⟩ := hR.2.2.2.2.2
    exact ⟨hB.1, hB.2.1, RepMk.fr hI.2.2.1 h ⟨n0 _ (by omega), n0 _ (by omega), n0 _ (by omega), n0 _ (by omega), n0 _ (by omega), n0 _ (by omega)⟩ n3 hR.2.2.1, hR.2.2.2.1.fr h (fun i => ⟨fun q => by unfold tK mkK at q; omega, fun q => by unfold tK mkK at q; omega⟩), hB.2.2, f, fun i hi => by rw [h12]; exact g1 i hi, g2⟩
  refine Con.of hl pl_X6 (Nat.le_of_ble_eq_true rfl) ?_
  intro D cA p e s m args below meth c C hr
  refine w_aload_n C dX6_nestedLength_0 rfl ?_
  refine w_aload_n C dX6_nestedLength_1 rfl ?_
  refine w_iload_n C dX6_nestedLength_2 rfl ?_
  refine w_callV C dX6_nestedLength_3 (c_X6_styleOrThrow hl hI.1 hR.2.2.2.2.1 a ha) mX6_styleOrThrow vX6_styleOrThrow lk_X6_279 (by first | assumption | exact Nat.zero_lt_one | exact Nat.zero_lt_two | exact Nat.one_lt_two) rfl rfl rfl rfl ⟨by first | decide | (simp only [rmd]; omega), by first | decide | (simp only [rmd]; omega), by first | decide | (simp only [rmd]; omega), by first | decide | (simp only [rmd]; omega)⟩ (Nat.le_of_ble_eq_true rfl) (fun E M' h => by obtain ⟨rfl, rfl, h⟩ := h; exact T1 h) ⟨by decide, by decide⟩ (fun r_ M_ q3 => ?_)
  obtain ⟨rfl, y1, rfl⟩ := q3
  have i6 : inD (cnt ns nt) 6 a.toNat := Nat.lt_of_lt_of_le (show a.toNat < ntS S by omega) hnt
  have XW : ∀ (E : String) (M' : Mem), E = eUO ∧ Fr tK M_ M' ∧ M'.2.1 12 1 = M_.2.1 12 1 ∧ ¬ (1 ≤ nwS S a.toNat ∧ nwS S a.toNat ≤ 4) → exR (oNested a S P nx) [eIO, eUO, eIS] E M' := fun E M' h => by
    obtain ⟨rfl, h1, h3, h2⟩ := h
    exact T2 M' y1 h2 (X2 h1 h3)
  refine w_callV C dX6_nestedLength_6 (c_X6_wantPieces hl hI hZ hR hns hnt a.toNat (by omega)) mX6_wantPieces vX6_wantPieces lk_X6_315 (by first | assumption | exact Nat.zero_lt_one | exact Nat.zero_lt_two | exact Nat.one_lt_two) rfl rfl rfl rfl ⟨by first | decide | (simp only [rmd]; omega), by first | decide | (simp only [rmd]; omega), by first | decide | (simp only [rmd]; omega), by first | decide | (simp only [rmd]; omega)⟩ (Nat.le_of_ble_eq_true rfl) XW ⟨by decide, by decide⟩ (fun r_ M1 q6 => ?_)
  obtain ⟨f1, f2, f3, f4, rfl⟩ := q6
  have hR1 := X2 f1 f2
  obtain ⟨f, hf⟩ := hR1.2.2.2.2.2
  refine w_istore_n C dX6_nestedLength_9 (by decide) ?_
  refine w_aload_n C dX6_nestedLength_10 rfl ?_
  refine g_X6_35 C dX6_nestedLength_11 (by first | assumption | exact Nat.zero_lt_one | exact Nat.zero_lt_two | exact Nat.one_lt_two) ?_
  refine w_callV C dX6_nestedLength_14 (c_X1_empty (S := S) hl i21 hf) mX1_empty vX1_empty lk_X6_223 (by first | assumption | exact Nat.zero_lt_one | exact Nat.zero_lt_two | exact Nat.one_lt_two) rfl rfl rfl rfl ⟨by first | decide | (simp only [rmd]; omega), by first | decide | (simp only [rmd]; omega), by first | decide | (simp only [rmd]; omega), by first | decide | (simp only [rmd]; omega)⟩ (Nat.le_of_ble_eq_true rfl) (fun _ _ h => h.elim) ⟨by decide, by decide⟩ (fun r_ M2 q14 => ?_)
  obtain ⟨g1, g2, rfl⟩ := q14
  have F2 : Fr tK M_ M2 := f1.tr (g1.mono (fun k i h => Or.inl h))
  have hB2 := RB.fr ⟨hR.1, hR.2.1, hR.2.2.2.2.1⟩ F2
  have W2 : Wt (wnS S a.toNat) M2 := fun k hk => by
    rw [(g1 27 0 (fun q => by unfold mkK at q; omega)).1]
    exact f3 k hk
  have hcN : cN (nwS S a.toNat) < 1000000 := by
    rcases (show nwS S a.toNat = 1 ∨ nwS S a.toNat = 2 ∨ nwS S a.toNat = 3 ∨ nwS S a.toNat = 4 by omega) with e | e | e | e <;> (rw [e]; decide)
  have hl61 : leastS S a.toNat ≤ 61 := minN_le61
  refine w_aload_n C dX6_nestedLength_17 rfl ?_
  refine w_iload_n C dX6_nestedLength_18 rfl ?_
  refine w_bipush (v := 61) C dX6_nestedLength_19 rfl ?_
  refine w_callV C dX6_nestedLength_21 (c_X6_shortest hl hI.1 (fun j hj => (hZ.1 j hj).2.2.2.1) hns (nwS S a.toNat) M2 (wnS S a.toNat) [] 0 61 hB2 ⟨f, g2⟩ PInv.nil (by show 0 + nwS S a.toNat < 40; omega) (by omega) W2 (fun k _ => wn4 hI a.toNat k) (Nat.le_refl _)) mX6_shortest vX6_shortest lk_X6_318 (by first | assumption | exact Nat.zero_lt_one | exact Nat.zero_lt_two | exact Nat.one_lt_two) rfl rfl rfl rfl ⟨by first | decide | (simp only [rmd]; omega), by first | decide | (simp only [rmd]; omega), by first | decide | (simp only [rmd]; omega), by first | decide | (simp only [rmd]; omega)⟩ (Nat.le_of_ble_eq_true rfl) (fun _ _ h => h.elim) ⟨by decide, by decide⟩ (fun r_ M3 q21 => ?_)
  obtain ⟨k1, ⟨q', -, -, k2⟩, -, rfl⟩ := q21
  have hR3 := hR.tr hI (F2.tr k1) k2
  refine Wm.top (v' := aI (leastS S a.toNat : Nat)) (congrArg (fun z : Nat => aI (z : Int)) (Nat.min_eq_right hl61)) ?_
  have XL : ∀ (E : String) (M' : Mem), E = eIS ∧ M' = M3 ∧ 61 ≤ leastS S a.toNat → exR (oNested a S P nx) [eIO, eUO, eIS] E M' := fun E M' h => by
    obtain ⟨rfl, rfl, h2⟩ := h
    exact T3 M' y1 f4 h2 hR3
  refine w_callS C dX6_nestedLength_24 (c_X6_lengthOrThrow hl (leastS S a.toNat) hl61) mX6_lengthOrThrow sX6_lengthOrThrow lk_X6_321 rfl rfl ⟨by first | decide | (simp only [rmd]; omega), by first | decide | (simp only [rmd]; omega), by first | decide | (simp only [rmd]; omega), by first | decide | (simp only [rmd]; omega)⟩ (Nat.le_of_ble_eq_true rfl) XL ⟨by decide, by decide⟩ (fun r_ M4 q24 => ?_)
  obtain ⟨rfl, h61, rfl⟩ := q24
  refine w_iret C hr dX6_nestedLength_27 rfl (T0 _ y1 f4 h61 hR3) (by decide) (by decide)
end Rm
