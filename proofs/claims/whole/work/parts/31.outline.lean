/-! Outline, Shape, Piece, Style: reads -/
section Ou
variable {l : Launch} {b0 : Nat → Prop} {ad : Ads} {ns nt : Nat} {M : Mem}
theorem c_X2_turnedRow (hl : l.stackTraces = false) {o t mi : Nat} (ho : inD (cnt ns nt) 5 o) (h0 : M.1 5 o 0 = t) (h1 : M.1 5 o 1 = mi) (ht : t < 4) (hm : mi ≤ 1) (u v : Nat) (hr0 : u < 5) (hc0 : v < 5) : Con l b0 yX2_turnedRow cX2_turnedRow 4 (some .int) 1 0 0 [aO 5 o, aI u, aI v] ad (cnt ns nt) M (fun r9 M' => M' = M ∧ r9 = some (aI (tR t mi (5 * u + v)))) noX := by
  have e1 : (5 * u + v) / 5 = u := by omega
  have e2 : (5 * u + v) % 5 = v := by omega
  refine Con.of hl pl_X2 (Nat.le_of_ble_eq_true rfl) ?_
  intro D cA p e s m args below meth c C hr
  have K : ∀ x : Int, x = (if mi = 1 then 4 - v else v : Nat) → Wm p l e (rmd 1 0 0) s m args below meth c 4 D cA b0 0 0 (vx_MQ below (mQ D cA b0 ad (cnt ns nt) (fun r9 M' => M' = M ∧ r9 = some (aI (tR t mi (5 * u + v))))) (mX D cA b0 ad (cnt ns nt) noX) args s 0 0 b0) 14 [(0, aO 5 o), (1, aI u), (2, aI v)] [aI x] ad (cnt ns nt) M := by
    intro x hx
    refine w_istore_n C dX2_turnedRow_14 (by decide) ?_
    refine w_aload_n C dX2_turnedRow_15 rfl ?_
    refine g_X2_9 C dX2_turnedRow_16 (by first | assumption | exact Nat.zero_lt_one | exact Nat.zero_lt_two | exact Nat.one_lt_two) ?_
    rcases (show t = 0 ∨ t = 1 ∨ t = 2 ∨ t = 3 by omega) with rfl | rfl | rfl | rfl
    · refine w_tsIn (off := 25) (tgt := 44) C dX2_turnedRow_19 (by omega) (by omega) (by rw [h0]; rfl) (by decide) ?_
      refine w_iload_n C dX2_turnedRow_44 rfl ?_
      refine w_iret C hr dX2_turnedRow_45 rfl (⟨rfl, by rw [tR, if_pos rfl, e1]⟩) (by decide) (by decide)
    · refine w_tsIn (off := 27) (tgt := 46) C dX2_turnedRow_19 (by omega) (by omega) (by rw [h0]; rfl) (by decide) ?_
      refine w_iload_n C dX2_turnedRow_46 rfl ?_
      refine w_iret C hr dX2_turnedRow_47 rfl (⟨rfl, by rw [tR, if_neg (by decide), if_pos rfl, e2, hx]⟩) (by decide) (by decide)
    · refine w_tsIn (off := 29) (tgt := 48) C dX2_turnedRow_19 (by omega) (by omega) (by rw [h0]; rfl) (by decide) ?_
      refine w_iconst C dX2_turnedRow_48 ?_
      refine w_iload_n C dX2_turnedRow_49 rfl ?_
      refine w_isub C dX2_turnedRow_50 ?_
      refine w_iret C hr dX2_turnedRow_51 rfl (⟨rfl, by rw [tR, if_neg (by decide), if_neg (by decide), if_pos rfl, e1]; congr 2; omega⟩) (by decide) (by decide)
    · refine w_tsOut (tgt := 52) C dX2_turnedRow_19 (by omega) (by omega) (by decide) ?_
      refine w_iconst C dX2_turnedRow_52 ?_
      refine w_iload_n C dX2_turnedRow_53 rfl ?_
      refine w_isub C dX2_turnedRow_54 ?_
      refine w_iret C hr dX2_turnedRow_55 rfl (⟨rfl, by rw [tR, if_neg (by decide), if_neg (by decide), if_neg (by decide), e2, hx]; congr 2; split <;> omega⟩) (by decide) (by decide)
  refine w_aload_n C dX2_turnedRow_0 rfl ?_
  refine g_X2_15 C dX2_turnedRow_1 (by first | assumption | exact Nat.zero_lt_one | exact Nat.zero_lt_two | exact Nat.one_lt_two) ?_
  refine w_if_eq C dX2_turnedRow_4 (by omega) (fun h4 => ?_) (fun h4 => ?_)
  · refine w_iload_n C dX2_turnedRow_13 rfl ?_
    exact K _ (by rw [if_neg (by omega)])
  · refine w_iconst C dX2_turnedRow_7 ?_
    refine w_iload_n C dX2_turnedRow_8 rfl ?_
    refine w_isub C dX2_turnedRow_9 ?_
    refine w_goto C dX2_turnedRow_10 ?_
    exact K _ (by rw [if_pos (show mi = 1 by omega)]; omega)
theorem c_X2_turnedColumn (hl : l.stackTraces = false) {o t mi : Nat} (ho : inD (cnt ns nt) 5 o) (h0 : M.1 5 o 0 = t) (h1 : M.1 5 o 1 = mi) (ht : t < 4) (hm : mi ≤ 1) (u v : Nat) (hr0 : u < 5) (hc0 : v < 5) : Con l b0 yX2_turnedColumn cX2_turnedColumn 4 (some .int) 1 0 0 [aO 5 o, aI u, aI v] ad (cnt ns nt) M (fun r9 M' => M' = M ∧ r9 = some (aI (tC t mi (5 * u + v)))) noX := by
  have e1 : (5 * u + v) / 5 = u := by omega
  have e2 : (5 * u + v) % 5 = v := by omega
  refine Con.of hl pl_X2 (Nat.le_of_ble_eq_true rfl) ?_
  intro D cA p e s m args below meth c C hr
  have K : ∀ x : Int, x = (if mi = 1 then 4 - v else v : Nat) → Wm p l e (rmd 1 0 0) s m args below meth c 4 D cA b0 0 0 (vx_MQ below (mQ D cA b0 ad (cnt ns nt) (fun r9 M' => M' = M ∧ r9 = some (aI (tC t mi (5 * u + v))))) (mX D cA b0 ad (cnt ns nt) noX) args s 0 0 b0) 14 [(0, aO 5 o), (1, aI u), (2, aI v)] [aI x] ad (cnt ns nt) M := by
    intro x hx
    refine w_istore_n C dX2_turnedColumn_14 (by decide) ?_
    refine w_aload_n C dX2_turnedColumn_15 rfl ?_
    refine g_X2_9 C dX2_turnedColumn_16 (by first | assumption | exact Nat.zero_lt_one | exact Nat.zero_lt_two | exact Nat.one_lt_two) ?_
    rcases (show t = 0 ∨ t = 1 ∨ t = 2 ∨ t = 3 by omega) with rfl | rfl | rfl | rfl
    · refine w_tsIn (off := 25) (tgt := 44) C dX2_turnedColumn_19 (by omega) (by omega) (by rw [h0]; rfl) (by decide) ?_
      refine w_iload_n C dX2_turnedColumn_44 rfl ?_
      refine w_iret C hr dX2_turnedColumn_45 rfl (⟨rfl, by rw [tC, if_pos rfl, e2, hx]⟩) (by decide) (by decide)
    · refine w_tsIn (off := 27) (tgt := 46) C dX2_turnedColumn_19 (by omega) (by omega) (by rw [h0]; rfl) (by decide) ?_
      refine w_iconst C dX2_turnedColumn_46 ?_
      refine w_iload_n C dX2_turnedColumn_47 rfl ?_
      refine w_isub C dX2_turnedColumn_48 ?_
      refine w_iret C hr dX2_turnedColumn_49 rfl (⟨rfl, by rw [tC, if_neg (by decide), if_pos rfl, e1]; congr 2; omega⟩) (by decide) (by decide)
    · refine w_tsIn (off := 31) (tgt := 50) C dX2_turnedColumn_19 (by omega) (by omega) (by rw [h0]; rfl) (by decide) ?_
      refine w_iconst C dX2_turnedColumn_50 ?_
      refine w_iload_n C dX2_turnedColumn_51 rfl ?_
      refine w_isub C dX2_turnedColumn_52 ?_
      refine w_iret C hr dX2_turnedColumn_53 rfl (⟨rfl, by rw [tC, if_neg (by decide), if_neg (by decide), if_pos rfl, e2, hx]; congr 2; split <;> omega⟩) (by decide) (by decide)
    · refine w_tsOut (tgt := 54) C dX2_turnedColumn_19 (by omega) (by omega) (by decide) ?_
      refine w_iload_n C dX2_turnedColumn_54 rfl ?_
      refine w_iret C hr dX2_turnedColumn_55 rfl (⟨rfl, by rw [tC, if_neg (by decide), if_neg (by decide), if_neg (by decide), e1]⟩) (by decide) (by decide)
  refine w_aload_n C dX2_turnedColumn_0 rfl ?_
  refine g_X2_15 C dX2_turnedColumn_1 (by first | assumption | exact Nat.zero_lt_one | exact Nat.zero_lt_two | exact Nat.one_lt_two) ?_
  refine w_if_eq C dX2_turnedColumn_4 (by omega) (fun h4 => ?_) (fun h4 => ?_)
  · refine w_iload_n C dX2_turnedColumn_13 rfl ?_
    exact K _ (by rw [if_neg (by omega)])
  · refine w_iconst C dX2_turnedColumn_7 ?_
    refine w_iload_n C dX2_turnedColumn_8 rfl ?_
    refine w_isub C dX2_turnedColumn_9 ?_
    refine w_goto C dX2_turnedColumn_10 ?_
    exact K _ (by rw [if_pos (show mi = 1 by omega)]; omega)
theorem c_X2_hasCell (hl : l.stackTraces = false) {o : Nat} (ho : inD (cnt ns nt) 5 o) (ho2 : inD (cnt ns nt) 31 o) {f : Nat → Nat → Bool} (hf : ∀ r, r < 5 → M.1 31 o r = (bitsN (f r) 5 : Nat)) (r c : Int) (hr0 : -2147483648 ≤ r ∧ r ≤ 2147483647) (hc0 : -2147483648 ≤ c ∧ c ≤ 2147483647) : Con l b0 yX2_hasCell cX2_hasCell 3 (some .boolean) 2 0 0 [aO 5 o, aI r, aI c] ad (cnt ns nt) M (fun r9 M' => M' = M ∧ r9 = some (aI (b2 (0 ≤ r ∧ r < 5 ∧ 0 ≤ c ∧ c < 5 ∧ f r.toNat c.toNat = true)))) noX := by
  refine Con.of hl pl_X2 (Nat.le_of_ble_eq_true rfl) ?_
  intro D cA p e s m args below meth cd C hr
  refine w_iload_n C dX2_hasCell_0 rfl ?_
  refine w_iconst C dX2_hasCell_1 ?_
  refine w_iconst C dX2_hasCell_2 ?_
  refine w_callN C dX2_hasCell_3 (c_X6_isWithin hl c 0 4 hc0 (by omega) (by omega)) mX6_isWithin sX6_isWithin lk_X2_64 rfl rfl ⟨by decide, by decide, by decide, by decide⟩ (Nat.le_of_ble_eq_true rfl) (fun _ _ h => h.elim) ⟨by decide, by decide⟩ (fun r_ M_ q3 => ?_)
  obtain ⟨rfl, rfl⟩ := q3
  have t1 := b2_01 (0 ≤ c ∧ c ≤ 4)
  refine w_if_eq C dX2_hasCell_6 (by omega) (fun h6 => ?_) (fun h6 => ?_)
  · refine w_iconst C dX2_hasCell_28 ?_
    refine w_iret C hr dX2_hasCell_29 (by first | exact narrow_z (b2_01 _) | exact narrow_z (by omega)) (⟨rfl, ?_⟩) (by decide) (by decide)
    rw [b2_f]
    intro q
    rw [b2_t (by omega)] at h6
    omega
  · have h6' : 0 ≤ c ∧ c ≤ 4 := Decidable.byContradiction fun q => h6 (b2_f q)
    refine w_aload_n C dX2_hasCell_9 rfl ?_
    refine g_X2_19 C dX2_hasCell_10 (by first | assumption | exact Nat.zero_lt_one | exact Nat.zero_lt_two | exact Nat.one_lt_two) ?_
    refine w_iload_n C dX2_hasCell_13 rfl ?_
    refine w_callN C dX2_hasCell_14 (c_X6_entry hl IA_31 ho2 r hr0) mX6_entry sX6_entry lk_X2_29 rfl rfl ⟨by decide, by decide, by decide, by decide⟩ (Nat.le_of_ble_eq_true rfl) (fun _ _ h => h.elim) ⟨by decide, by decide⟩ (fun r_ M_ q14 => ?_)
    obtain ⟨rfl, rfl⟩ := q14
    obtain ⟨x, hx, hx2⟩ : ∃ x : Nat, rd M_ 31 o 5 r = x ∧ (x < 32 ∧ (x.testBit c.toNat = true ↔ 0 ≤ r ∧ r < 5 ∧ f r.toNat c.toNat = true)) := by
      by_cases h : 0 ≤ r ∧ r < 5
      · refine ⟨bitsN (f r.toNat) 5, ?_, bitsN_lt _ 5, ?_⟩
        · rw [rd, if_pos (by omega), hf r.toNat (by omega)]
        · rw [bitsN_tb, decide_eq_true (show c.toNat < 5 by omega), Bool.true_and]
          exact ⟨fun q => ⟨h.1, h.2, q⟩, fun q => q.2.2⟩
      · refine ⟨0, by rw [rd, if_neg (by omega)]; rfl, by decide, ?_⟩
        rw [Nat.zero_testBit]
        exact ⟨fun q => (by cases q), fun q => absurd ⟨q.1, q.2.1⟩ h⟩
    rw [hx]
    refine Wm.top (v' := aI (x : Int)) rfl ?_
    refine w_iload_n C dX2_hasCell_17 rfl ?_
    refine Wm.top (v' := aI ((c.toNat : Nat) : Int)) (by congr 1; omega) ?_
    refine w_callN C dX2_hasCell_18 (c_X6_hasBit hl x c.toNat (by omega) (by omega)) mX6_hasBit sX6_hasBit lk_X2_33 rfl rfl ⟨by decide, by decide, by decide, by decide⟩ (Nat.le_of_ble_eq_true rfl) (fun _ _ h => h.elim) ⟨by decide, by decide⟩ (fun r_ M_ q18 => ?_)
    obtain ⟨rfl, rfl⟩ := q18
    have t2 := b2_01 (x.testBit c.toNat = true)
    refine w_if_eq C dX2_hasCell_21 (by omega) (fun h21 => ?_) (fun h21 => ?_)
    · refine w_iconst C dX2_hasCell_28 ?_
      refine w_iret C hr dX2_hasCell_29 (by first | exact narrow_z (b2_01 _) | exact narrow_z (by omega)) (⟨rfl, ?_⟩) (by decide) (by decide)
      rw [b2_f]
      intro q
      rw [b2_t (hx2.2.mpr ⟨q.1, q.2.1, q.2.2.2.2⟩)] at h21
      omega
    · have h21' : x.testBit c.toNat = true := Decidable.byContradiction fun q => h21 (b2_f q)
      have h3 := hx2.2.mp h21'
      refine w_iconst C dX2_hasCell_24 ?_
      refine w_goto C dX2_hasCell_25 ?_
      refine w_iret C hr dX2_hasCell_29 (by first | exact narrow_z (b2_01 _) | exact narrow_z (by omega)) (⟨rfl, by rw [b2_t ⟨h3.1, h3.2.1, by omega, by omega, h3.2.2⟩]⟩) (by decide) (by decide)
theorem c_X4_hasCell (hl : l.stackTraces = false) {j : Nat} (hj : inD (cnt ns nt) 4 j) (hj2 : inD (cnt ns nt) 30 j) {f : Nat → Nat → Bool} (hf : ∀ r, r < 5 → M.1 30 j r = (bitsN (f r) 5 : Nat)) (r c : Nat) (hr0 : r < 5) (hc0 : c < 5) : Con l b0 yX4_hasCell cX4_hasCell 3 (some .boolean) 2 0 0 [aO 4 j, aI r, aI c] ad (cnt ns nt) M (fun r9 M' => M' = M ∧ r9 = some (aI (b2 (f r c = true)))) noX := by
  refine Con.of hl pl_X4 (Nat.le_of_ble_eq_true rfl) ?_
  intro D cA p e s m args below meth cd C hr
  refine w_aload_n C dX4_hasCell_0 rfl ?_
  refine g_X4_19 C dX4_hasCell_1 (by first | assumption | exact Nat.zero_lt_one | exact Nat.zero_lt_two | exact Nat.one_lt_two) ?_
  refine w_iload_n C dX4_hasCell_4 rfl ?_
  refine w_callN C dX4_hasCell_5 (c_X6_entry hl IA_30 hj2 r (by omega)) mX6_entry sX6_entry lk_X4_36 rfl rfl ⟨by decide, by decide, by decide, by decide⟩ (Nat.le_of_ble_eq_true rfl) (fun _ _ h => h.elim) ⟨by decide, by decide⟩ (fun r_ M_ q5 => ?_)
  obtain ⟨rfl, rfl⟩ := q5
  rw [rd_ok hr0, hf r hr0]
  refine w_iload_n C dX4_hasCell_8 rfl ?_
  have hb : bitsN (f r) 5 < 32 := bitsN_lt _ 5
  refine w_callN C dX4_hasCell_9 (c_X6_hasBit hl _ c (by omega) (by omega)) mX6_hasBit sX6_hasBit lk_X4_40 rfl rfl ⟨by decide, by decide, by decide, by decide⟩ (Nat.le_of_ble_eq_true rfl) (fun _ _ h => h.elim) ⟨by decide, by decide⟩ (fun r_ M_ q9 => ?_)
  obtain ⟨rfl, rfl⟩ := q9
  refine w_iret C hr dX4_hasCell_12 (by first | exact narrow_z (b2_01 _) | exact narrow_z (by omega)) (⟨rfl, by rw [bitsN_tb, decide_eq_true hc0, Bool.true_and]⟩) (by decide) (by decide)
theorem c_X4_canTurn (hl : l.stackTraces = false) {S : Sg} {j : Nat} (hG : GInv S) (hj : inD (cnt ns nt) 4 j) (h0 : M.1 4 j 0 = ruS S j) (t : Nat) (ht : t < 4) : Con l b0 yX4_canTurn cX4_canTurn 3 (some .boolean) 1 0 0 [aO 4 j, aI t, aI (npS S)] ad (cnt ns nt) M (fun r9 M' => M' = M ∧ r9 = some (aI (b2 (mayT S j t)))) noX := by
  have hru := (hG.2.2.2.2.2.2.2.2.2.1 j).2.2.2.2.2.1
  have hnp := hG.2.1
  refine Con.of hl pl_X4 (Nat.le_of_ble_eq_true rfl) ?_
  intro D cA p e s m args below meth c C hr
  refine w_iload_n C dX4_canTurn_0 rfl ?_
  refine w_if_ne C dX4_canTurn_1 (by omega) (fun h1 => ?_) (fun h1 => ?_)
  · refine w_iload_n C dX4_canTurn_6 rfl ?_
    refine w_if_ne C dX4_canTurn_7 (by omega) (fun h7 => ?_) (fun h7 => ?_)
    · refine w_iconst C dX4_canTurn_37 ?_
      refine w_iret C hr dX4_canTurn_38 (by first | exact narrow_z (b2_01 _) | exact narrow_z (by omega)) (⟨rfl, by rw [b2_f]; omega⟩) (by decide) (by decide)
    · refine w_aload_n C dX4_canTurn_10 rfl ?_
      refine g_X4_9 C dX4_canTurn_11 (by first | assumption | exact Nat.zero_lt_one | exact Nat.zero_lt_two | exact Nat.one_lt_two) ?_
      refine w_bipush (v := 113) C dX4_canTurn_14 rfl ?_
      refine w_icmp_eq C dX4_canTurn_16 (by omega) (by omega) (fun h16 => ?_) (fun h16 => ?_)
      · refine w_iconst C dX4_canTurn_33 ?_
        refine w_goto C dX4_canTurn_34 ?_
        refine w_iret C hr dX4_canTurn_38 (by first | exact narrow_z (b2_01 _) | exact narrow_z (by omega)) (⟨rfl, by rw [b2_t]; omega⟩) (by decide) (by decide)
      · refine w_aload_n C dX4_canTurn_19 rfl ?_
        refine g_X4_9 C dX4_canTurn_20 (by first | assumption | exact Nat.zero_lt_one | exact Nat.zero_lt_two | exact Nat.one_lt_two) ?_
        refine w_bipush (v := 104) C dX4_canTurn_23 rfl ?_
        refine w_icmp_ne C dX4_canTurn_25 (by omega) (by omega) (fun h25 => ?_) (fun h25 => ?_)
        · refine w_iconst C dX4_canTurn_37 ?_
          refine w_iret C hr dX4_canTurn_38 (by first | exact narrow_z (b2_01 _) | exact narrow_z (by omega)) (⟨rfl, by rw [b2_f]; omega⟩) (by decide) (by decide)
        · refine w_iload_n C dX4_canTurn_28 rfl ?_
          refine w_iconst C dX4_canTurn_29 ?_
          refine w_icmp_ne C dX4_canTurn_30 (by omega) (by omega) (fun h30 => ?_) (fun h30 => ?_)
          · refine w_iconst C dX4_canTurn_37 ?_
            refine w_iret C hr dX4_canTurn_38 (by first | exact narrow_z (b2_01 _) | exact narrow_z (by omega)) (⟨rfl, by rw [b2_f]; omega⟩) (by decide) (by decide)
          · refine w_iconst C dX4_canTurn_33 ?_
            refine w_goto C dX4_canTurn_34 ?_
            refine w_iret C hr dX4_canTurn_38 (by first | exact narrow_z (b2_01 _) | exact narrow_z (by omega)) (⟨rfl, by rw [b2_t]; omega⟩) (by decide) (by decide)
  · refine w_iconst C dX4_canTurn_4 ?_
    refine w_iret C hr dX4_canTurn_5 (by first | exact narrow_z (b2_01 _) | exact narrow_z (by omega)) (⟨rfl, by rw [b2_t]; omega⟩) (by decide) (by decide)
theorem c_X4_canMirror (hl : l.stackTraces = false) {S : Sg} {j : Nat} (hG : GInv S) (hj : inD (cnt ns nt) 4 j) (h0 : M.1 4 j 1 = paS S j) : Con l b0 yX4_canMirror cX4_canMirror 2 (some .boolean) 1 0 0 [aO 4 j, aI (fdS S)] ad (cnt ns nt) M (fun r9 M' => M' = M ∧ r9 = some (aI (b2 (¬ (paS S j = 0 ∨ fdS S = 1))))) noX := by
  have hpa := (hG.2.2.2.2.2.2.2.2.2.1 j).1
  have hfd := hG.2.2.1
  refine Con.of hl pl_X4 (Nat.le_of_ble_eq_true rfl) ?_
  intro D cA p e s m args below meth c C hr
  refine w_aload_n C dX4_canMirror_0 rfl ?_
  refine g_X4_15 C dX4_canMirror_1 (by first | assumption | exact Nat.zero_lt_one | exact Nat.zero_lt_two | exact Nat.one_lt_two) ?_
  refine w_if_eq C dX4_canMirror_4 (by omega) (fun h4 => ?_) (fun h4 => ?_)
  · refine w_iconst C dX4_canMirror_15 ?_
    refine w_iret C hr dX4_canMirror_16 (by first | exact narrow_z (b2_01 _) | exact narrow_z (by omega)) (⟨rfl, by rw [b2_f]; omega⟩) (by decide) (by decide)
  · refine w_iload_n C dX4_canMirror_7 rfl ?_
    refine w_if_ne C dX4_canMirror_8 (by omega) (fun h8 => ?_) (fun h8 => ?_)
    · refine w_iconst C dX4_canMirror_15 ?_
      refine w_iret C hr dX4_canMirror_16 (by first | exact narrow_z (b2_01 _) | exact narrow_z (by omega)) (⟨rfl, by rw [b2_f]; omega⟩) (by decide) (by decide)
    · refine w_iconst C dX4_canMirror_11 ?_
      refine w_goto C dX4_canMirror_12 ?_
      refine w_iret C hr dX4_canMirror_16 (by first | exact narrow_z (b2_01 _) | exact narrow_z (by omega)) (⟨rfl, by rw [b2_t]; omega⟩) (by decide) (by decide)
theorem c_X4_outlineFor (hl : l.stackTraces = false) {j : Nat} (hj : inD (cnt ns nt) 4 j) (hj2 : inD (cnt ns nt) 13 j) (ho : ∀ o, o < 8 → M.2.1 13 j o = some (8 * j + o)) (t mi : Nat) (ht : t < 4) (hm : mi ≤ 1) : Con l b0 yX4_outlineFor cX4_outlineFor 4 (some (.object "CuttingRoom$Outline")) 1 0 0 [aO 4 j, aI t, aI mi] ad (cnt ns nt) M (fun r9 M' => M' = M ∧ r9 = some (aO 5 (8 * j + (t + 4 * mi)))) noX := by
  refine Con.of hl pl_X4 (Nat.le_of_ble_eq_true rfl) ?_
  intro D cA p e s m args below meth c C hr
  have K : ∀ x : Int, x = (t + 4 * mi : Nat) → Wm p l e (rmd 1 0 0) s m args below meth c 4 D cA b0 0 0 (vx_MQ below (mQ D cA b0 ad (cnt ns nt) (fun r9 M' => M' = M ∧ r9 = some (aO 5 (8 * j + (t + 4 * mi))))) (mX D cA b0 ad (cnt ns nt) noX) args s 0 0 b0) 11 [(0, aO 4 j), (1, aI t), (2, aI mi)] [aI x] ad (cnt ns nt) M := by
    intro x hx
    subst hx
    refine w_istore_n C dX4_outlineFor_11 (by decide) ?_
    refine w_iload_n C dX4_outlineFor_12 rfl ?_
    refine w_if_lt C dX4_outlineFor_13 (by omega) (fun h13 => ?_) (fun h13 => ?_)
    · omega
    · refine w_iload_n C dX4_outlineFor_16 rfl ?_
      refine w_aload_n C dX4_outlineFor_17 rfl ?_
      refine g_X4_29 C dX4_outlineFor_18 (by first | assumption | exact Nat.zero_lt_one | exact Nat.zero_lt_two | exact Nat.one_lt_two) ?_
      refine w_alen C dX4_outlineFor_21 hj2 (Or.inr (Or.inr (Or.inr ⟨8, 5, by decide, RA_13⟩))) ?_
      refine w_icmp_ge C dX4_outlineFor_22 (by omega) (by omega) (fun h22 => ?_) (fun h22 => ?_)
      · omega
      · refine w_aload_n C dX4_outlineFor_25 rfl ?_
        refine g_X4_29 C dX4_outlineFor_26 (by first | assumption | exact Nat.zero_lt_one | exact Nat.zero_lt_two | exact Nat.one_lt_two) ?_
        refine w_iload_n C dX4_outlineFor_29 rfl ?_
        refine w_aald C dX4_outlineFor_30 hj2 RA_13 rfl (by omega) ?_
        refine w_goto C dX4_outlineFor_31 ?_
        refine w_aret C hr (Or.inl ⟨_, rfl⟩) dX4_outlineFor_35 (⟨rfl, ?_⟩) (by decide) (by decide)
        rw [Int.toNat_natCast, ho _ (by omega)]
        rfl
  refine w_iload_n C dX4_outlineFor_0 rfl ?_
  refine w_if_eq C dX4_outlineFor_1 (by omega) (fun h1 => ?_) (fun h1 => ?_)
  · refine w_iload_n C dX4_outlineFor_10 rfl ?_
    exact K _ (by omega)
  · refine w_iload_n C dX4_outlineFor_4 rfl ?_
    refine w_iconst C dX4_outlineFor_5 ?_
    refine w_iadd C dX4_outlineFor_6 ?_
    refine w_goto C dX4_outlineFor_7 ?_
    exact K _ (by omega)
theorem c_X4_whole (hl : l.stackTraces = false) {S : Sg} {j : Nat} (hG : GInv S) (hj : inD (cnt ns nt) 4 j) (h1 : M.1 4 j 1 = paS S j) (h8 : M.1 4 j 8 = stS S j 0) (h9 : M.1 4 j 9 = stS S j 1) : Con l b0 yX4_whole cX4_whole 1 (some .int) 2 0 0 [aO 4 j] ad (cnt ns nt) M (fun r9 M' => M' = M ∧ r9 = some (aI (if paS S j = 1 then (min (stS S j 0) (stS S j 1) : Nat) else (stS S j 0 : Nat)))) noX := by
  have hpa := hG.2.2.2.2.2.2.2.2.2.1 j
  obtain ⟨p1, p2, p3, p4, p5, p6, p7, p8, p9⟩ := hpa
  refine Con.of hl pl_X4 (Nat.le_of_ble_eq_true rfl) ?_
  intro D cA p e s m args below meth c C hr
  refine w_aload_n C dX4_whole_0 rfl ?_
  refine g_X4_15 C dX4_whole_1 (by first | assumption | exact Nat.zero_lt_one | exact Nat.zero_lt_two | exact Nat.one_lt_two) ?_
  refine w_if_eq C dX4_whole_4 (by omega) (fun h4 => ?_) (fun h4 => ?_)
  · refine w_aload_n C dX4_whole_21 rfl ?_
    refine g_X4_63 C dX4_whole_22 (by first | assumption | exact Nat.zero_lt_one | exact Nat.zero_lt_two | exact Nat.one_lt_two) ?_
    refine w_iret C hr dX4_whole_25 rfl (⟨rfl, by rw [h8, if_neg (by omega)]⟩) (by decide) (by decide)
  · refine w_aload_n C dX4_whole_7 rfl ?_
    refine g_X4_63 C dX4_whole_8 (by first | assumption | exact Nat.zero_lt_one | exact Nat.zero_lt_two | exact Nat.one_lt_two) ?_
    refine w_aload_n C dX4_whole_11 rfl ?_
    refine g_X4_66 C dX4_whole_12 (by first | assumption | exact Nat.zero_lt_one | exact Nat.zero_lt_two | exact Nat.one_lt_two) ?_
    refine w_mmin C lk_X4_69 dX4_whole_15 (by omega) (by omega) ⟨by decide, by decide, by decide, by decide⟩ (Nat.le_of_ble_eq_true rfl) ?_
    refine w_goto C dX4_whole_18 ?_
    refine w_iret C hr dX4_whole_25 rfl (⟨rfl, by rw [h8, h9, if_pos (by omega)]; congr 2; omega⟩) (by decide) (by decide)
theorem c_X5_hasParts (hl : l.stackTraces = false) {S : Sg} {y : Nat} (hG : GInv S) (hy : inD (cnt ns nt) 6 y) (hy2 : inD (cnt ns nt) 32 y) (hc : ∀ j, j < 8 → M.1 32 y j = ctS S y j) : Con l b0 yX5_hasParts cX5_hasParts 2 (some .boolean) 1 0 0 [aO 6 y] ad (cnt ns nt) M (fun r9 M' => M' = M ∧ ∃ z : Int, r9 = some (aI z) ∧ (z = 0 ∨ z = 1) ∧ (z = 1 ↔ ∃ j, j < 8 ∧ ctS S y j ≠ 0)) noX := by
  have hct := hG.2.2.2.2.2.2.2.2.2.2.1
  refine Con.of hl pl_X5 (Nat.le_of_ble_eq_true rfl) ?_
  intro D cA p e s m args below meth c C hr
  have loop : ∀ (d i : Nat), i + d = 8 → (∀ j, j < i → ctS S y j = 0) → Wm p l e (rmd 1 0 0) s m args below meth c 2 D cA b0 0 0 (vx_MQ below (mQ D cA b0 ad (cnt ns nt) (fun r9 M' => M' = M ∧ ∃ z : Int, r9 = some (aI z) ∧ (z = 0 ∨ z = 1) ∧ (z = 1 ↔ ∃ j, j < 8 ∧ ctS S y j ≠ 0))) (mX D cA b0 ad (cnt ns nt) noX) args s 0 0 b0) 2 [(0, aO 6 y), (1, aI i)] [] ad (cnt ns nt) M := by
    intro d
    induction d with
    | zero =>
      intro i hi hz
      refine w_iload_n C dX5_hasParts_2 rfl ?_
      refine w_aload_n C dX5_hasParts_3 rfl ?_
      refine g_X5_9 C dX5_hasParts_4 (by first | assumption | exact Nat.zero_lt_one | exact Nat.zero_lt_two | exact Nat.one_lt_two) ?_
      refine w_alen C dX5_hasParts_7 hy2 (Or.inl IA_32) ?_
      refine w_icmp_ge C dX5_hasParts_8 (by omega) (by omega) (fun h8 => ?_) (fun h8 => ?_)
      · refine w_iconst C dX5_hasParts_28 ?_
        refine w_iret C hr dX5_hasParts_29 (by first | exact narrow_z (b2_01 _) | exact narrow_z (by omega)) (⟨rfl, 0, rfl, Or.inl rfl, fun q => absurd q (by decide), fun ⟨j, hj, hq⟩ => absurd (hz j (by omega)) hq⟩) (by decide) (by decide)
      · omega
    | succ d ih =>
      intro i hi hz
      have hci := hct y i
      refine w_iload_n C dX5_hasParts_2 rfl ?_
      refine w_aload_n C dX5_hasParts_3 rfl ?_
      refine g_X5_9 C dX5_hasParts_4 (by first | assumption | exact Nat.zero_lt_one | exact Nat.zero_lt_two | exact Nat.one_lt_two) ?_
      refine w_alen C dX5_hasParts_7 hy2 (Or.inl IA_32) ?_
      refine w_icmp_ge C dX5_hasParts_8 (by omega) (by omega) (fun h8 => ?_) (fun h8 => ?_)
      · omega
      · refine w_aload_n C dX5_hasParts_11 rfl ?_
        refine g_X5_9 C dX5_hasParts_12 (by first | assumption | exact Nat.zero_lt_one | exact Nat.zero_lt_two | exact Nat.one_lt_two) ?_
        refine w_iload_n C dX5_hasParts_15 rfl ?_
        refine w_iald C dX5_hasParts_16 (by first | assumption | exact Nat.zero_lt_one | exact Nat.zero_lt_two | exact Nat.one_lt_two) IA_32 (by omega) ?_
        rw [Int.toNat_natCast, hc i (by omega)]
        refine w_if_le C dX5_hasParts_17 (by omega) (fun h17 => ?_) (fun h17 => ?_)
        · refine w_iinc C dX5_hasParts_22 rfl (by decide) ?_
          refine w_goto C dX5_hasParts_25 ?_
          refine Wm.lsub (lv' := [(0, aO 6 y), (1, aI ((i + 1 : Nat) : Int))]) ⟨rfl, rfl, trivial⟩ (ih (i + 1) (by omega) (fun j hj => ?_))
          by_cases h : j = i
          · rw [h]; omega
          · exact hz j (by omega)
        · refine w_iconst C dX5_hasParts_20 ?_
          refine w_iret C hr dX5_hasParts_21 (by first | exact narrow_z (b2_01 _) | exact narrow_z (by omega)) (⟨rfl, 1, rfl, Or.inr rfl, fun _ => ⟨i, by omega, by omega⟩, fun _ => rfl⟩) (by decide) (by decide)
  refine w_iconst C dX5_hasParts_0 ?_
  refine w_istore_n C dX5_hasParts_1 (by decide) ?_
  exact Wm.lsub (lv' := [(0, aO 6 y), (1, aI ((0 : Nat) : Int))]) ⟨rfl, rfl, trivial⟩ (loop 8 0 rfl (fun j h => absurd h (Nat.not_lt_zero j)))
end Ou
