/-! Cloth -/
def spK : Nat → Nat → Prop := fun k i => k = 21 ∧ i = 0
def ctK : Nat → Nat → Prop := fun k i => (k = 1 ∨ k = 20 ∨ k = 21) ∧ i = 0
theorem bits12 {f : Nat → Bool} : bitsN f 12 < 4096 := bitsN_lt f 12
theorem rd_ok {M : Mem} {k i n : Nat} {z : Nat} (h : z < n) : rd M k i n (z : Int) = M.1 k i z := by
  unfold rd
  rw [if_pos (by omega)]
  rfl
theorem wr_ok {M : Mem} {k i n : Nat} {z : Nat} {v : Int} (h : z < n) : wr M k i n (z : Int) v = uI M k i z v := by
  unfold wr
  rw [if_pos (by omega)]
  rfl
theorem tb_or_shl (b k i : Nat) : (b ||| 1 * 2 ^ k).testBit i = (b.testBit i || decide (k = i)) := by
  rw [Nat.testBit_or, Nat.one_mul, Nat.testBit_two_pow]
section Cloth
variable {l : Launch} {b0 : Nat → Prop} {ad : Ads} {ns nt : Nat} {M : Mem}
theorem c_X0_openColumns (hl : l.stackTraces = false) {S : Sg} (hG : GInv S) (hM : RepCt S M) : Con l b0 yX0_openColumns cX0_openColumns 1 (some .int) 1 0 0 [aO 1 0] ad (cnt ns nt) M (fun r M' => M' = M ∧ r = some (aI (colsS S))) noX := by
  obtain ⟨h1, h2, h3, h4, h5, h6⟩ := hM
  obtain ⟨g1, g2, g3, -⟩ := hG
  refine Con.of hl pl_X0 (Nat.le_of_ble_eq_true rfl) ?_
  intro D cA p e s m args below meth c C hr
  refine w_aload_n C dX0_openColumns_0 rfl ?_
  refine g_X0_22 C dX0_openColumns_1 (by first | assumption | exact Nat.zero_lt_one | exact Nat.zero_lt_two | exact Nat.one_lt_two) ?_
  refine w_if_eq C dX0_openColumns_4 (by omega) (fun h4 => ?_) (fun h4 => ?_)
  · refine w_aload_n C dX0_openColumns_16 rfl ?_
    refine g_X0_9 C dX0_openColumns_17 (by first | assumption | exact Nat.zero_lt_one | exact Nat.zero_lt_two | exact Nat.one_lt_two) ?_
    refine w_iret C hr dX0_openColumns_20 rfl (⟨rfl, by rw [h1, colsS, if_neg (by omega)]⟩) (by decide) (by decide)
  · refine w_aload_n C dX0_openColumns_7 rfl ?_
    refine g_X0_9 C dX0_openColumns_8 (by first | assumption | exact Nat.zero_lt_one | exact Nat.zero_lt_two | exact Nat.one_lt_two) ?_
    refine w_iconst C dX0_openColumns_11 ?_
    refine w_idiv C dX0_openColumns_12 (by omega) (by omega) ?_
    refine w_goto C dX0_openColumns_13 ?_
    refine w_iret C hr dX0_openColumns_20 rfl (⟨rfl, by rw [h1, colsS, if_pos (by omega)]; rfl⟩) (by decide) (by decide)
theorem c_X0_isStriped (hl : l.stackTraces = false) {S : Sg} (hG : GInv S) (hM : RepCt S M) : Con l b0 yX0_isStriped cX0_isStriped 1 (some .boolean) 1 0 0 [aO 1 0] ad (cnt ns nt) M (fun r M' => M' = M ∧ r = some (aI (b2 (2 ≤ srS S)))) noX := by
  obtain ⟨h1, h2, h3, h4, h5, h6⟩ := hM
  obtain ⟨g1, g2, g3, g4, -⟩ := hG
  refine Con.of hl pl_X0 (Nat.le_of_ble_eq_true rfl) ?_
  intro D cA p e s m args below meth c C hr
  refine w_aload_n C dX0_isStriped_0 rfl ?_
  refine g_X0_26 C dX0_isStriped_1 (by first | assumption | exact Nat.zero_lt_one | exact Nat.zero_lt_two | exact Nat.one_lt_two) ?_
  refine w_iconst C dX0_isStriped_4 ?_
  refine w_icmp_lt C dX0_isStriped_5 (by omega) (by omega) (fun h5 => ?_) (fun h5 => ?_)
  · refine w_iconst C dX0_isStriped_12 ?_
    refine w_iret C hr dX0_isStriped_13 (by first | exact narrow_z (b2_01 _) | exact narrow_z (by omega)) (⟨rfl, by rw [b2_f (by omega)]⟩) (by decide) (by decide)
  · refine w_iconst C dX0_isStriped_8 ?_
    refine w_goto C dX0_isStriped_9 ?_
    refine w_iret C hr dX0_isStriped_13 (by first | exact narrow_z (b2_01 _) | exact narrow_z (by omega)) (⟨rfl, by rw [b2_t (by omega)]⟩) (by decide) (by decide)
theorem c_X0_remainder (hl : l.stackTraces = false) {S : Sg} (hG : GInv S) (hM : RepCt S M) (z : Int) (hz : -2147483648 ≤ z ∧ z ≤ 2147483647) : Con l b0 yX0_remainder cX0_remainder 2 (some .int) 2 0 0 [aO 1 0, aI z] ad (cnt ns nt) M (fun r M' => M' = M ∧ r = some (aI (remS S z))) noX := by
  obtain ⟨h1, h2, h3, h4, h5, h6⟩ := hM
  obtain ⟨g1, g2, g3, g4, -⟩ := hG
  refine Con.of hl pl_X0 (Nat.le_of_ble_eq_true rfl) ?_
  intro D cA p e s m args below meth c C hr
  refine w_aload_n C dX0_remainder_0 rfl ?_
  refine g_X0_26 C dX0_remainder_1 (by first | assumption | exact Nat.zero_lt_one | exact Nat.zero_lt_two | exact Nat.one_lt_two) ?_
  refine w_iconst C dX0_remainder_4 ?_
  refine w_icmp_lt C dX0_remainder_5 (by omega) (by omega) (fun h5 => ?_) (fun h5 => ?_)
  · refine w_iconst C dX0_remainder_19 ?_
    refine w_iret C hr dX0_remainder_20 rfl (⟨rfl, by rw [remS, if_neg (by omega)]⟩) (by decide) (by decide)
  · refine w_iload_n C dX0_remainder_8 rfl ?_
    refine w_aload_n C dX0_remainder_9 rfl ?_
    refine g_X0_26 C dX0_remainder_10 (by first | assumption | exact Nat.zero_lt_one | exact Nat.zero_lt_two | exact Nat.one_lt_two) ?_
    refine w_callS C dX0_remainder_13 (c_J9_floorMod hl hz (show 0 < M.1 1 0 3 ∧ M.1 1 0 3 ≤ 1000 by omega)) mJ9_floorMod_7cf53 sJ9_floorMod_7cf53 lk_X0_29 rfl rfl ⟨by decide, by decide, by decide, by decide⟩ (Nat.le_of_ble_eq_true rfl) (fun _ _ h => h.elim) ⟨by decide, by decide⟩ (fun r_ M_ q13 => ?_)
    obtain ⟨rfl, rfl⟩ := q13
    refine w_goto C dX0_remainder_16 ?_
    refine w_iret C hr dX0_remainder_20 rfl (⟨rfl, by rw [h4, remS, if_pos (by omega)]⟩) (by decide) (by decide)
theorem c_X0_opposite (hl : l.stackTraces = false) {S : Sg} (hM : RepCt S M) (z : Int) : Con l b0 yX0_opposite cX0_opposite 2 (some .int) 1 0 0 [aO 1 0, aI z] ad (cnt ns nt) M (fun r M' => M' = M ∧ r = some (aI (wdS S - 1 - z))) noX := by
  obtain ⟨h1, h2, h3, h4, h5, h6⟩ := hM
  refine Con.of hl pl_X0 (Nat.le_of_ble_eq_true rfl) ?_
  intro D cA p e s m args below meth c C hr
  refine w_aload_n C dX0_opposite_0 rfl ?_
  refine g_X0_9 C dX0_opposite_1 (by first | assumption | exact Nat.zero_lt_one | exact Nat.zero_lt_two | exact Nat.one_lt_two) ?_
  refine w_iconst C dX0_opposite_4 ?_
  refine w_isub C dX0_opposite_5 ?_
  refine w_iload_n C dX0_opposite_6 rfl ?_
  refine w_isub C dX0_opposite_7 ?_
  refine w_iret C hr dX0_opposite_8 rfl (⟨rfl, by rw [h1]⟩) (by decide) (by decide)
theorem c_X0_isTold (hl : l.stackTraces = false) {S : Sg} (hM : RepCt S M) (r c : Nat) (hr0 : r < 60) (hc0 : c < 12) : Con l b0 yX0_isTold cX0_isTold 3 (some .boolean) 2 0 0 [aO 1 0, aI r, aI c] ad (cnt ns nt) M (fun r9 M' => M' = M ∧ r9 = some (aI (b2 (flS S (12 * r + c) ≠ 0)))) noX := by
  obtain ⟨h1, h2, h3, h4, h5, h6⟩ := hM
  refine Con.of hl pl_X0 (Nat.le_of_ble_eq_true rfl) ?_
  intro D cA p e s m args below meth cd C hr
  refine w_aload_n C dX0_isTold_0 rfl ?_
  refine g_X0_15 C dX0_isTold_1 (by first | assumption | exact Nat.zero_lt_one | exact Nat.zero_lt_two | exact Nat.one_lt_two) ?_
  refine w_iload_n C dX0_isTold_4 rfl ?_
  refine w_callN C dX0_isTold_5 (c_X6_entry hl IA_20 Nat.zero_lt_one r (by omega)) mX6_entry sX6_entry lk_X0_38 rfl rfl ⟨by first | decide | (simp only [rmd]; omega), by first | decide | (simp only [rmd]; omega), by first | decide | (simp only [rmd]; omega), by first | decide | (simp only [rmd]; omega)⟩ (Nat.le_of_ble_eq_true rfl) (fun _ _ h => h.elim) ⟨by decide, by decide⟩ (fun r_ M_ q5 => ?_)
  obtain ⟨rfl, rfl⟩ := q5
  refine w_iload_n C dX0_isTold_8 rfl ?_
  rw [rd_ok hr0, h6 r hr0]
  refine w_callN C dX0_isTold_9 (c_X6_hasBit hl _ c (Nat.lt_trans bits12 (by decide)) (by omega)) mX6_hasBit sX6_hasBit lk_X0_42 rfl rfl ⟨by first | decide | (simp only [rmd]; omega), by first | decide | (simp only [rmd]; omega), by first | decide | (simp only [rmd]; omega), by first | decide | (simp only [rmd]; omega)⟩ (Nat.le_of_ble_eq_true rfl) (fun _ _ h => h.elim) ⟨by decide, by decide⟩ (fun r_ M_ q9 => ?_)
  obtain ⟨rfl, rfl⟩ := q9
  refine w_iret C hr dX0_isTold_12 (by first | exact narrow_z (b2_01 _) | exact narrow_z (by omega)) (⟨rfl, by rw [bitsN_tb, decide_eq_true hc0]; simp⟩) (by decide) (by decide)
theorem rev_tb (f : Nat → Bool) (w n : Nat) (hn : n < w) (hw : w ≤ 12) : ((bitsN (fun c => decide (c < w) && decide (w - 1 - c < n) && f (w - 1 - c)) 12) ||| (if f n then 1 * 2 ^ (w - 1 - n) else 0)) = bitsN (fun c => decide (c < w) && decide (w - 1 - c < n + 1) && f (w - 1 - c)) 12 := by
  refine bitsN_of fun i => ?_
  cases hf : f n with
  | false =>
    simp only [Bool.false_eq_true, if_false, Nat.or_zero]
    rw [bitsN_tb]
    by_cases h1 : i < w ∧ w - 1 - i = n
    · rw [h1.2, hf]; simp
    · by_cases h2 : i < w
      · rw [show decide (w - 1 - i < n) = decide (w - 1 - i < n + 1) from decide_eq_decide.mpr (by omega)]
      · simp [h2]
  | true =>
    simp only [if_true]
    rw [tb_or_shl, bitsN_tb]
    by_cases h1 : w - 1 - n = i
    · have e9 : w - 1 - i = n := by omega
      rw [e9, hf, decide_eq_true h1, decide_eq_true (show i < 12 by omega), decide_eq_true (show i < w by omega), decide_eq_true (show n < n + 1 by omega)]
      simp
    · rw [decide_eq_false h1, Bool.or_false]
      by_cases h2 : i < w
      · rw [show decide (w - 1 - i < n) = decide (w - 1 - i < n + 1) from decide_eq_decide.mpr (by omega)]
      · simp [h2]
theorem c_X0_reversed (hl : l.stackTraces = false) {S : Sg} (hG : GInv S) (hM : RepCt S M) (f : Nat → Bool) : Con l b0 yX0_reversed cX0_reversed 4 (some .int) 2 0 0 [aO 1 0, aI (bitsN f 12 : Nat)] ad (cnt ns nt) M (fun r M' => M' = M ∧ r = some (aI (bitsN (fun c => decide (c < wdS S) && f (wdS S - 1 - c)) 12 : Nat))) noX := by
  have hM0 := hM
  obtain ⟨h1, h2, h3, h4, h5, h6⟩ := hM
  obtain ⟨g1, -⟩ := hG
  refine Con.of hl pl_X0 (Nat.le_of_ble_eq_true rfl) ?_
  intro D cA p e s m args below meth c C hr
  have loop : ∀ (k n : Nat), n + k = wdS S → Wm p l e (rmd 2 0 0) s m args below meth c 4 D cA b0 0 0 (vx_MQ below (mQ D cA b0 ad (cnt ns nt) (fun r M' => M' = M ∧ r = some (aI (bitsN (fun c => decide (c < wdS S) && f (wdS S - 1 - c)) 12 : Nat)))) (mX D cA b0 ad (cnt ns nt) noX) args s 0 0 b0) 4 [(0, aO 1 0), (1, aI (bitsN f 12 : Nat)), (2, aI (bitsN (fun c => decide (c < wdS S) && decide (wdS S - 1 - c < n) && f (wdS S - 1 - c)) 12 : Nat)), (3, aI n)] [] ad (cnt ns nt) M := by
    intro k
    induction k with
    | zero =>
      intro n hn
      refine w_iload_n C dX0_reversed_4 rfl ?_
      refine w_aload_n C dX0_reversed_5 rfl ?_
      refine g_X0_9 C dX0_reversed_6 (by first | assumption | exact Nat.zero_lt_one | exact Nat.zero_lt_two | exact Nat.one_lt_two) ?_
      refine w_icmp_ge C dX0_reversed_9 (by omega) (by omega) (fun h9 => ?_) (fun h9 => ?_)
      · refine w_iload_n C dX0_reversed_36 rfl ?_
        refine w_iret C hr dX0_reversed_37 rfl (⟨rfl, ?_⟩) (by decide) (by decide)
        refine congrArg (fun z : Nat => some (aI (z : Int))) (bitsN_cg fun i hi => ?_)
        by_cases h : i < wdS S
        · rw [decide_eq_true (show wdS S - 1 - i < n by omega), Bool.and_true]
        · simp [h]
      · omega
    | succ k ih =>
      intro n hn
      have hrv := rev_tb f (wdS S) n (by omega) (by omega)
      have hbl : bitsN (fun c => decide (c < wdS S) && decide (wdS S - 1 - c < n) && f (wdS S - 1 - c)) 12 < 4096 := bits12
      refine w_iload_n C dX0_reversed_4 rfl ?_
      refine w_aload_n C dX0_reversed_5 rfl ?_
      refine g_X0_9 C dX0_reversed_6 (by first | assumption | exact Nat.zero_lt_one | exact Nat.zero_lt_two | exact Nat.one_lt_two) ?_
      refine w_icmp_ge C dX0_reversed_9 (by omega) (by omega) (fun h9 => ?_) (fun h9 => ?_)
      · omega
      · refine w_iload_n C dX0_reversed_12 rfl ?_
        refine w_iload_n C dX0_reversed_13 rfl ?_
        refine w_callN C dX0_reversed_14 (c_X6_hasBit hl _ n (Nat.lt_trans bits12 (by decide)) (by omega)) mX6_hasBit sX6_hasBit lk_X0_42 rfl rfl ⟨by first | decide | (simp only [rmd]; omega), by first | decide | (simp only [rmd]; omega), by first | decide | (simp only [rmd]; omega), by first | decide | (simp only [rmd]; omega)⟩ (Nat.le_of_ble_eq_true rfl) (fun _ _ h => h.elim) ⟨by decide, by decide⟩ (fun r_ M_ q14 => ?_)
        obtain ⟨rfl, rfl⟩ := q14
        have hb := bitsN_tb f 12 n
        rw [decide_eq_true (by omega : n < 12), Bool.true_and] at hb
        rw [hb]
        have h01 := b2_01 (f n = true)
        refine w_if_eq C dX0_reversed_17 (by omega) (fun h17 => ?_) (fun h17 => ?_)
        · refine w_iinc C dX0_reversed_30 rfl (by decide) ?_
          refine w_goto C dX0_reversed_33 ?_
          refine Wm.lsub (lv' := [(0, aO 1 0), (1, aI (bitsN f 12 : Nat)), (2, aI (bitsN (fun c => decide (c < wdS S) && decide (wdS S - 1 - c < n + 1) && f (wdS S - 1 - c)) 12 : Nat)), (3, aI ((n + 1 : Nat) : Int))]) ⟨rfl, rfl, ?_, rfl, trivial⟩ (ih (n + 1) (by omega))
          have hfn : f n = false := by
            cases hf : f n
            · rfl
            · rw [b2_t hf] at h17; omega
          simp only [hfn, Bool.false_eq_true, if_false, Nat.or_zero] at hrv
          rw [← hrv]
          rfl
        · have hfn : f n = true := Decidable.byContradiction fun q => h17 (b2_f q)
          refine w_iload_n C dX0_reversed_20 rfl ?_
          refine w_iconst C dX0_reversed_21 ?_
          refine w_aload_n C dX0_reversed_22 rfl ?_
          refine w_iload_n C dX0_reversed_23 rfl ?_
          refine w_callV C dX0_reversed_24 (c_X0_opposite hl hM0 n) mX0_opposite vX0_opposite lk_X0_63 (by first | assumption | exact Nat.zero_lt_one | exact Nat.zero_lt_two | exact Nat.one_lt_two) rfl rfl rfl rfl ⟨by first | decide | (simp only [rmd]; omega), by first | decide | (simp only [rmd]; omega), by first | decide | (simp only [rmd]; omega), by first | decide | (simp only [rmd]; omega)⟩ (Nat.le_of_ble_eq_true rfl) (fun _ _ h => h.elim) ⟨by decide, by decide⟩ (fun r_ M_ q24 => ?_)
          obtain ⟨rfl, rfl⟩ := q24
          refine Wm.top (v' := aI ((wdS S - 1 - n : Nat) : Int)) (by congr 1; omega) ?_
          refine w_ishl (x := 1) C dX0_reversed_27 (by omega) ?_
          have hp : 1 * 2 ^ (wdS S - 1 - n) ≤ 2 ^ 11 := by rw [Nat.one_mul]; exact Nat.pow_le_pow_right (by decide) (by omega)
          refine w_ior C dX0_reversed_28 (by omega) (by omega) ?_
          refine w_istore_n C dX0_reversed_29 (by decide) ?_
          refine w_iinc C dX0_reversed_30 rfl (by decide) ?_
          refine w_goto C dX0_reversed_33 ?_
          refine Wm.lsub (lv' := [(0, aO 1 0), (1, aI (bitsN f 12 : Nat)), (2, aI (bitsN (fun c => decide (c < wdS S) && decide (wdS S - 1 - c < n + 1) && f (wdS S - 1 - c)) 12 : Nat)), (3, aI ((n + 1 : Nat) : Int))]) ⟨rfl, rfl, ?_, rfl, trivial⟩ (ih (n + 1) (by omega))
          simp only [hfn, if_true] at hrv
          rw [← hrv]
          rfl
  refine w_iconst C dX0_reversed_0 ?_
  refine w_istore_n C dX0_reversed_1 (by decide) ?_
  refine w_iconst C dX0_reversed_2 ?_
  refine w_istore_n C dX0_reversed_3 (by decide) ?_
  refine Wm.lsub (lv' := [(0, aO 1 0), (1, aI (bitsN f 12 : Nat)), (2, aI (bitsN (fun c => decide (c < wdS S) && decide (wdS S - 1 - c < 0) && f (wdS S - 1 - c)) 12 : Nat)), (3, aI ((0 : Nat) : Int))]) ⟨rfl, rfl, ?_, rfl, trivial⟩ (loop _ 0 (Nat.zero_add _))
  have z0 : bitsN (fun c => decide (c < wdS S) && decide (wdS S - 1 - c < 0) && f (wdS S - 1 - c)) 12 = 0 := bitsN_0.mpr (fun i _ => by simp)
  rw [z0]
  rfl
/-- spoiled, out of told -/
theorem c_X0_spoilRows (hl : l.stackTraces = false) {S : Sg} (hG : GInv S) (hM : RepCt S M) : Con l b0 yX0_spoilRows cX0_spoilRows 3 none 3 0 0 [aO 1 0] ad (cnt ns nt) M (fun r M' => Fr spK M M' ∧ RepCl S M' ∧ r = none) noX := by
  have hG0 := hG
  obtain ⟨g1, g2, g3, g4, -⟩ := hG
  refine Con.of hl pl_X0 (Nat.le_of_ble_eq_true rfl) ?_
  intro D cA p e s m args below meth c C hr
  have loop : ∀ (k n : Nat) (t : AV) (M1 : Mem), n + k = 60 → Fr spK M M1 → (∀ r, r < n → M1.1 21 0 r = (bitsN (badS S r) 12 : Nat)) → Wm p l e (rmd 3 0 0) s m args below meth c 3 D cA b0 0 0 (vx_MQ below (mQ D cA b0 ad (cnt ns nt) (fun r M' => Fr spK M M' ∧ RepCl S M' ∧ r = none)) (mX D cA b0 ad (cnt ns nt) noX) args s 0 0 b0) 2 [(0, aO 1 0), (1, aI n)] [] ad (cnt ns nt) M1 := by
    intro k
    induction k with
    | zero =>
      intro n t M1 hn hF hb
      refine w_iload_n C dX0_spoilRows_2 rfl ?_
      refine w_bipush (v := 60) C dX0_spoilRows_3 rfl ?_
      refine w_icmp_ge C dX0_spoilRows_5 (by omega) (by omega) (fun h5 => ?_) (fun h5 => ?_)
      · refine w_vret C hr dX0_spoilRows_49 (⟨hF, ⟨RepCt.fr hF (by simp [spK]) (by simp [spK]) hM, fun r hr => hb r (by omega)⟩, rfl⟩) (by decide) (by decide)
      · omega
    | succ k ih =>
      intro n t M1 hn hF hb
      have hM1 : RepCt S M1 := RepCt.fr hF (by simp [spK]) (by simp [spK]) hM
      have hM1' := hM1
      obtain ⟨h1, h2, h3, h4, h5, h6⟩ := hM1'
      have step : ∀ (M2 : Mem), M2 = wr M1 21 0 60 n ((bitsN (badS S n) 12 : Nat) : Int) → Fr spK M M2 ∧ ∀ r, r < n + 1 → M2.1 21 0 r = (bitsN (badS S r) 12 : Nat) := by
        intro M2 hM2
        rw [wr_ok (by omega)] at hM2
        subst hM2
        refine ⟨hF.uI ⟨rfl, rfl⟩, fun r hr => ?_⟩
        rw [uI_get]
        split
        · rename_i q; rw [q.2.2]
        · exact hb r (by omega)
      refine w_iload_n C dX0_spoilRows_2 rfl ?_
      refine w_bipush (v := 60) C dX0_spoilRows_3 rfl ?_
      refine w_icmp_ge C dX0_spoilRows_5 (by omega) (by omega) (fun h5 => ?_) (fun h5 => ?_)
      · omega
      · refine w_aload_n C dX0_spoilRows_8 rfl ?_
        refine g_X0_15 C dX0_spoilRows_9 (by first | assumption | exact Nat.zero_lt_one | exact Nat.zero_lt_two | exact Nat.one_lt_two) ?_
        refine w_iload_n C dX0_spoilRows_12 rfl ?_
        refine w_callN C dX0_spoilRows_13 (c_X6_entry hl IA_20 Nat.zero_lt_one n (by omega)) mX6_entry sX6_entry lk_X0_38 rfl rfl ⟨by first | decide | (simp only [rmd]; omega), by first | decide | (simp only [rmd]; omega), by first | decide | (simp only [rmd]; omega), by first | decide | (simp only [rmd]; omega)⟩ (Nat.le_of_ble_eq_true rfl) (fun _ _ h => h.elim) ⟨by decide, by decide⟩ (fun r_ M_ q13 => ?_)
        obtain ⟨rfl, rfl⟩ := q13
        rw [rd_ok (by omega), h6 n (by omega)]
        refine w_istore_n C dX0_spoilRows_16 (by decide) ?_
        refine w_aload_n C dX0_spoilRows_17 rfl ?_
        refine g_X0_19 C dX0_spoilRows_18 (by first | assumption | exact Nat.zero_lt_one | exact Nat.zero_lt_two | exact Nat.one_lt_two) ?_
        refine w_iload_n C dX0_spoilRows_21 rfl ?_
        refine w_aload_n C dX0_spoilRows_22 rfl ?_
        refine g_X0_22 C dX0_spoilRows_23 (by first | assumption | exact Nat.zero_lt_one | exact Nat.zero_lt_two | exact Nat.one_lt_two) ?_
        refine w_if_eq C dX0_spoilRows_26 (by omega) (fun h26 => ?_) (fun h26 => ?_)
        · refine w_iload_n C dX0_spoilRows_39 rfl ?_
          have e9 : bitsN (fun c => decide (flS S (12 * n + c) ≠ 0)) 12 = bitsN (badS S n) 12 := bitsN_cg fun i hi => by
            unfold badS
            rw [decide_eq_false (show ¬ fdS S = 1 by omega)]
            simp
          refine Wm.top (v' := aI ((bitsN (badS S n) 12 : Nat) : Int)) (by rw [e9]) ?_
          refine w_callN C dX0_spoilRows_40 (c_X6_store hl IA_21 Nat.zero_lt_one n _ (by omega)) mX6_store sX6_store lk_X0_46 rfl rfl ⟨by first | decide | (simp only [rmd]; omega), by first | decide | (simp only [rmd]; omega), by first | decide | (simp only [rmd]; omega), by first | decide | (simp only [rmd]; omega)⟩ (Nat.le_of_ble_eq_true rfl) (fun _ _ h => h.elim) ⟨by decide, by decide⟩ (fun r_ M_ q40 => ?_)
          obtain ⟨q40, rfl⟩ := q40
          obtain ⟨s1, s2⟩ := step _ q40
          refine w_iinc C dX0_spoilRows_43 rfl (by decide) ?_
          refine w_goto C dX0_spoilRows_46 ?_
          exact Wm.lsub (lv' := [(0, aO 1 0), (1, aI ((n + 1 : Nat) : Int))]) ⟨rfl, rfl, trivial⟩ (ih (n + 1) t _ (by omega) s1 s2)
        · refine w_iload_n C dX0_spoilRows_29 rfl ?_
          refine w_aload_n C dX0_spoilRows_30 rfl ?_
          refine w_iload_n C dX0_spoilRows_31 rfl ?_
          refine w_callV C dX0_spoilRows_32 (c_X0_reversed hl hG0 hM1 _) mX0_reversed vX0_reversed lk_X0_59 (by first | assumption | exact Nat.zero_lt_one | exact Nat.zero_lt_two | exact Nat.one_lt_two) rfl rfl rfl rfl ⟨by first | decide | (simp only [rmd]; omega), by first | decide | (simp only [rmd]; omega), by first | decide | (simp only [rmd]; omega), by first | decide | (simp only [rmd]; omega)⟩ (Nat.le_of_ble_eq_true rfl) (fun _ _ h => h.elim) ⟨by decide, by decide⟩ (fun r_ M_ q32 => ?_)
          obtain ⟨rfl, rfl⟩ := q32
          have a1 : bitsN (fun c => decide (flS S (12 * n + c) ≠ 0)) 12 < 4096 := bits12
          have a2 : bitsN (fun c => decide (c < wdS S) && decide (flS S (12 * n + (wdS S - 1 - c)) ≠ 0)) 12 < 4096 := bits12
          refine w_ior C dX0_spoilRows_35 (by omega) (by omega) ?_
          refine w_goto C dX0_spoilRows_36 ?_
          have e9 : bitsN (fun c => decide (flS S (12 * n + c) ≠ 0)) 12 ||| bitsN (fun c => decide (c < wdS S) && (fun c => decide (flS S (12 * n + c) ≠ 0)) (wdS S - 1 - c)) 12 = bitsN (badS S n) 12 := bitsN_of fun i => by
            rw [Nat.testBit_or, bitsN_tb, bitsN_tb]
            unfold badS
            rw [decide_eq_true (show fdS S = 1 by omega)]
            simp [Bool.and_or_distrib_left]
          refine Wm.top (v' := aI ((bitsN (badS S n) 12 : Nat) : Int)) (by rw [e9]) ?_
          refine w_callN C dX0_spoilRows_40 (c_X6_store hl IA_21 Nat.zero_lt_one n _ (by omega)) mX6_store sX6_store lk_X0_46 rfl rfl ⟨by first | decide | (simp only [rmd]; omega), by first | decide | (simp only [rmd]; omega), by first | decide | (simp only [rmd]; omega), by first | decide | (simp only [rmd]; omega)⟩ (Nat.le_of_ble_eq_true rfl) (fun _ _ h => h.elim) ⟨by decide, by decide⟩ (fun r_ M_ q40 => ?_)
          obtain ⟨q40, rfl⟩ := q40
          obtain ⟨s1, s2⟩ := step _ q40
          refine w_iinc C dX0_spoilRows_43 rfl (by decide) ?_
          refine w_goto C dX0_spoilRows_46 ?_
          exact Wm.lsub (lv' := [(0, aO 1 0), (1, aI ((n + 1 : Nat) : Int))]) ⟨rfl, rfl, trivial⟩ (ih (n + 1) t _ (by omega) s1 s2)
  refine w_iconst C dX0_spoilRows_0 ?_
  refine w_istore_n C dX0_spoilRows_1 (by decide) ?_
  exact Wm.lsub (lv' := [(0, aO 1 0), (1, aI ((0 : Nat) : Int))]) ⟨rfl, rfl, trivial⟩ (loop 60 0 aN M rfl Fr.rf (fun r hr => absurd hr (Nat.not_lt_zero r)))
theorem c_X0_foldOrOpen (hl : l.stackTraces = false) {S : Sg} (hG : GInv S) (hM : RepCl S M) (z : Nat) (hz : z ≤ 1) : Con l b0 yX0_foldOrOpen cX0_foldOrOpen 2 none 4 0 0 [aO 1 0, aI z] ad (cnt ns nt) M (fun r M' => Fr ctK M M' ∧ RepCl (up3 S 2 0 0 z) M' ∧ r = none) noX := by
  obtain ⟨⟨h1, h2, h3, h4, h5, h6⟩, h7⟩ := hM
  refine Con.of hl pl_X0 (Nat.le_of_ble_eq_true rfl) ?_
  intro D cA p e s m args below meth c C hr
  refine w_aload_n C dX0_foldOrOpen_0 rfl ?_
  refine w_iload_n C dX0_foldOrOpen_1 rfl ?_
  refine p_X0_22 C dX0_foldOrOpen_2 (by first | assumption | exact Nat.zero_lt_one | exact Nat.zero_lt_two | exact Nat.one_lt_two) (by omega) ?_
  refine w_aload_n C dX0_foldOrOpen_5 rfl ?_
  have hM1 : RepCt (up3 S 2 0 0 z) (uI M 1 0 2 z) := ⟨h1, h2, rfl, h4, h5, h6⟩
  have hG1 : GInv (up3 S 2 0 0 z) := by
    obtain ⟨g1, g2, g3, g4⟩ := hG
    exact ⟨g1, g2, hz, g4⟩
  refine w_callV C dX0_foldOrOpen_6 (c_X0_spoilRows hl hG1 hM1) mX0_spoilRows vX0_spoilRows lk_X0_35 (by first | assumption | exact Nat.zero_lt_one | exact Nat.zero_lt_two | exact Nat.one_lt_two) rfl rfl rfl rfl ⟨by first | decide | (simp only [rmd]; omega), by first | decide | (simp only [rmd]; omega), by first | decide | (simp only [rmd]; omega), by first | decide | (simp only [rmd]; omega)⟩ (Nat.le_of_ble_eq_true rfl) (fun _ _ h => h.elim) ⟨by decide, by decide⟩ (fun r_ M_ q6 => ?_)
  obtain ⟨f1, f2, rfl⟩ := q6
  refine w_vret C hr dX0_foldOrOpen_9 (⟨(Fr.uI Fr.rf (by simp [ctK])).tr (f1.mono (fun k i q => by simp [spK] at q; simp [ctK, q])), f2, rfl⟩) (by decide) (by decide)
theorem c_X0_tell (hl : l.stackTraces = false) {S : Sg} (hG : GInv S) (hM : RepCl S M) (r c : Nat) (hr0 : r < 60) (hc0 : c < wdS S) (hf : flS S (12 * r + c) = 0) (hn : nfS S < 12) : Con l b0 yX0_tell cX0_tell 3 none 4 0 0 [aO 1 0, aI r, aI c] ad (cnt ns nt) M (fun r9 M' => Fr ctK M M' ∧ RepCl (up3 (up3 S 5 0 (12 * r + c) 1) 4 0 0 (nfS S + 1)) M' ∧ r9 = none) noX := by
  have hG0 := hG
  obtain ⟨⟨h1, h2, h3, h4, h5, h6⟩, h7⟩ := hM
  obtain ⟨g1, g2, g3, g4, g5, g6, g7, g8, g9, g10⟩ := hG
  refine Con.of hl pl_X0 (Nat.le_of_ble_eq_true rfl) ?_
  intro D cA p e s m args below meth cd C hr
  refine w_aload_n C dX0_tell_0 rfl ?_
  refine g_X0_15 C dX0_tell_1 (by first | assumption | exact Nat.zero_lt_one | exact Nat.zero_lt_two | exact Nat.one_lt_two) ?_
  refine w_iload_n C dX0_tell_4 rfl ?_
  refine w_aload_n C dX0_tell_5 rfl ?_
  refine g_X0_15 C dX0_tell_6 (by first | assumption | exact Nat.zero_lt_one | exact Nat.zero_lt_two | exact Nat.one_lt_two) ?_
  refine w_iload_n C dX0_tell_9 rfl ?_
  refine w_callN C dX0_tell_10 (c_X6_entry hl IA_20 Nat.zero_lt_one r (by omega)) mX6_entry sX6_entry lk_X0_38 rfl rfl ⟨by first | decide | (simp only [rmd]; omega), by first | decide | (simp only [rmd]; omega), by first | decide | (simp only [rmd]; omega), by first | decide | (simp only [rmd]; omega)⟩ (Nat.le_of_ble_eq_true rfl) (fun _ _ h => h.elim) ⟨by decide, by decide⟩ (fun r_ M_ q10 => ?_)
  obtain ⟨rfl, rfl⟩ := q10
  rw [rd_ok hr0, h6 r hr0]
  refine w_iconst C dX0_tell_13 ?_
  refine w_iload_n C dX0_tell_14 rfl ?_
  have a1 : bitsN (fun i => decide (flS S (12 * r + i) ≠ 0)) 12 < 4096 := bits12
  have a2 : 1 * 2 ^ c ≤ 2 ^ 11 := by rw [Nat.one_mul]; exact Nat.pow_le_pow_right (by decide) (by omega)
  refine w_ishl (x := 1) C dX0_tell_15 (by omega) ?_
  refine w_ior C dX0_tell_16 (by omega) (by omega) ?_
  refine w_callN C dX0_tell_17 (c_X6_store hl IA_20 Nat.zero_lt_one r _ (by omega)) mX6_store sX6_store lk_X0_46 rfl rfl ⟨by first | decide | (simp only [rmd]; omega), by first | decide | (simp only [rmd]; omega), by first | decide | (simp only [rmd]; omega), by first | decide | (simp only [rmd]; omega)⟩ (Nat.le_of_ble_eq_true rfl) (fun _ _ h => h.elim) ⟨by decide, by decide⟩ (fun r_ M_ q17 => ?_)
  obtain ⟨q17, rfl⟩ := q17
  rw [wr_ok hr0] at q17
  subst q17
  refine w_aload_n C dX0_tell_20 rfl ?_
  refine w_dup C dX0_tell_21 rfl ?_
  refine g_X0_50 C dX0_tell_22 (by first | assumption | exact Nat.zero_lt_one | exact Nat.zero_lt_two | exact Nat.one_lt_two) ?_
  refine w_iconst C dX0_tell_25 ?_
  refine w_iadd C dX0_tell_26 ?_
  refine p_X0_50 C dX0_tell_27 (by first | assumption | exact Nat.zero_lt_one | exact Nat.zero_lt_two | exact Nat.one_lt_two) ?_
  refine w_aload_n C dX0_tell_30 rfl ?_
  have hM1 : RepCt (up3 (up3 S 5 0 (12 * r + c) 1) 4 0 0 (nfS S + 1)) (uI (uI M_ 20 0 r ((bitsN (fun i => decide (flS S (12 * r + i) ≠ 0)) 12 ||| 1 * 2 ^ c : Nat) : Int)) 1 0 4 (M_.1 1 0 4 + 1)) := by
    refine ⟨h1, h2, h3, h4, ?_, fun r' hr' => ?_⟩
    · rw [uI_get, if_pos ⟨rfl, rfl, rfl⟩, h5]
      rfl
    · rw [uI_get, if_neg (fun q => absurd q.1 (by decide)), uI_get]
      by_cases hq : r' = r
      · subst hq
        rw [if_pos ⟨rfl, rfl, rfl⟩]
        refine congrArg (fun z : Nat => (z : Int)) (bitsN_of fun i => ?_)
        rw [tb_or_shl, bitsN_tb]
        simp only [wdS, flS, up3]
        by_cases hi : c = i
        · subst hi
          simp
          omega
        · rw [decide_eq_false hi]
          simp [show ¬ i = c from fun q => hi q.symm]
      · rw [if_neg (fun q => hq q.2.2), h6 r' hr']
        refine congrArg (fun z : Nat => (z : Int)) (bitsN_cg fun i hi => ?_)
        simp only [flS, up3]
        rw [if_neg (by omega), if_neg (by omega)]
  have hG1 : GInv (up3 (up3 S 5 0 (12 * r + c) 1) 4 0 0 (nfS S + 1)) := by
    refine ⟨g1, g2, g3, g4, ?_, g6, g7, fun r' c' hr' hc' hq => ?_, fun k hk => ?_, g10⟩
    · show nfS S + 1 ≤ 12
      omega
    · simp only [flS, wdS, up3] at hq ⊢
      by_cases h : 12 * r' + c' = 12 * r + c
      · have : c' = c := by omega
        subst this
        exact hc0
      · rw [if_neg (by omega), if_neg (by omega)] at hq
        exact g8 r' c' hr' hc' hq
    · simp only [flS, up3]
      split
      · omega
      · split
        · omega
        · exact g9 k hk
  refine w_callV C dX0_tell_31 (c_X0_spoilRows hl hG1 hM1) mX0_spoilRows vX0_spoilRows lk_X0_35 (by first | assumption | exact Nat.zero_lt_one | exact Nat.zero_lt_two | exact Nat.one_lt_two) rfl rfl rfl rfl ⟨by first | decide | (simp only [rmd]; omega), by first | decide | (simp only [rmd]; omega), by first | decide | (simp only [rmd]; omega), by first | decide | (simp only [rmd]; omega)⟩ (Nat.le_of_ble_eq_true rfl) (fun _ _ h => h.elim) ⟨by decide, by decide⟩ (fun r_ M_ q31 => ?_)
  obtain ⟨f1, f2, rfl⟩ := q31
  refine w_vret C hr dX0_tell_34 (⟨((Fr.uI (Fr.uI Fr.rf (by simp [ctK])) (by simp [ctK]))).tr (f1.mono (fun k i q => by simp [spK] at q; simp [ctK, q])), f2, rfl⟩) (by decide) (by decide)
theorem c_X0_reaches (hl : l.stackTraces = false) {S : Sg} (hG : GInv S) (hM : RepCt S M) (o : Nat) (ho : inD (cnt ns nt) 5 o) (h w : Int) (hh : M.1 5 o 3 = h) (hw : M.1 5 o 4 = w) (hb : -10 ≤ h ∧ h ≤ 10 ∧ -10 ≤ w ∧ w ≤ 10) (row col : Int) (h1 : -2147483648 ≤ row ∧ row ≤ 2147483647) (h2 : -2147483648 ≤ col ∧ col ≤ 2147483647) : Con l b0 yX0_reaches cX0_reaches 4 (some .boolean) 2 0 0 [aO 1 0, aO 5 o, aI row, aI col] ad (cnt ns nt) M (fun r9 M' => M' = M ∧ r9 = some (aI (b2 ((0 ≤ row ∧ row + h ≤ 60) ∧ 0 ≤ col ∧ col + w ≤ colsS S)))) noX := by
  have g1 := hG.1
  have hcols : colsS S ≤ 12 := by unfold colsS; split <;> omega
  refine Con.of hl pl_X0 (Nat.le_of_ble_eq_true rfl) ?_
  intro D cA p e s m args below meth cd C hr
  refine w_iload_n C dX0_reaches_0 rfl ?_
  refine w_iconst C dX0_reaches_1 ?_
  refine w_bipush (v := 60) C dX0_reaches_2 rfl ?_
  refine w_aload_n C dX0_reaches_4 rfl ?_
  refine g_X0_66 C dX0_reaches_5 (by first | assumption | exact Nat.zero_lt_one | exact Nat.zero_lt_two | exact Nat.one_lt_two) ?_
  refine w_isub C dX0_reaches_8 ?_
  refine w_callN C dX0_reaches_9 (c_X6_isWithin hl row 0 (60 - M.1 5 o 3) h1 (by omega) (by omega)) mX6_isWithin sX6_isWithin lk_X0_71 rfl rfl ⟨by first | decide | (simp only [rmd]; omega), by first | decide | (simp only [rmd]; omega), by first | decide | (simp only [rmd]; omega), by first | decide | (simp only [rmd]; omega)⟩ (Nat.le_of_ble_eq_true rfl) (fun _ _ h => h.elim) ⟨by decide, by decide⟩ (fun r_ M_ q9 => ?_)
  obtain ⟨rfl, rfl⟩ := q9
  have t1 := b2_01 (0 ≤ row ∧ row ≤ 60 - M_.1 5 o 3)
  refine w_if_eq C dX0_reaches_12 (by omega) (fun h12 => ?_) (fun h12 => ?_)
  · refine w_iconst C dX0_reaches_36 ?_
    refine w_iret C hr dX0_reaches_37 (by first | exact narrow_z (b2_01 _) | exact narrow_z (by omega)) (⟨rfl, ?_⟩) (by decide) (by decide)
    rw [b2_f]
    intro q
    rw [b2_t (by omega)] at h12
    omega
  · have h12' : 0 ≤ row ∧ row ≤ 60 - M_.1 5 o 3 := Decidable.byContradiction fun q => h12 (b2_f q)
    refine w_iload_n C dX0_reaches_15 rfl ?_
    refine w_iconst C dX0_reaches_16 ?_
    refine w_aload_n C dX0_reaches_17 rfl ?_
    refine w_callV C dX0_reaches_18 (c_X0_openColumns hl hG hM) mX0_openColumns vX0_openColumns lk_X0_75 (by first | assumption | exact Nat.zero_lt_one | exact Nat.zero_lt_two | exact Nat.one_lt_two) rfl rfl rfl rfl ⟨by first | decide | (simp only [rmd]; omega), by first | decide | (simp only [rmd]; omega), by first | decide | (simp only [rmd]; omega), by first | decide | (simp only [rmd]; omega)⟩ (Nat.le_of_ble_eq_true rfl) (fun _ _ h => h.elim) ⟨by decide, by decide⟩ (fun r_ M_ q18 => ?_)
    obtain ⟨rfl, rfl⟩ := q18
    refine w_aload_n C dX0_reaches_21 rfl ?_
    refine g_X0_79 C dX0_reaches_22 (by first | assumption | exact Nat.zero_lt_one | exact Nat.zero_lt_two | exact Nat.one_lt_two) ?_
    refine w_isub C dX0_reaches_25 ?_
    refine w_callN C dX0_reaches_26 (c_X6_isWithin hl col 0 _ h2 (by omega) (by omega)) mX6_isWithin sX6_isWithin lk_X0_71 rfl rfl ⟨by first | decide | (simp only [rmd]; omega), by first | decide | (simp only [rmd]; omega), by first | decide | (simp only [rmd]; omega), by first | decide | (simp only [rmd]; omega)⟩ (Nat.le_of_ble_eq_true rfl) (fun _ _ h => h.elim) ⟨by decide, by decide⟩ (fun r_ M_ q26 => ?_)
    obtain ⟨rfl, rfl⟩ := q26
    have t2 := b2_01 (0 ≤ col ∧ col ≤ (colsS S : Int) - M_.1 5 o 4)
    refine w_if_eq C dX0_reaches_29 (by omega) (fun h29 => ?_) (fun h29 => ?_)
    · refine w_iconst C dX0_reaches_36 ?_
      refine w_iret C hr dX0_reaches_37 (by first | exact narrow_z (b2_01 _) | exact narrow_z (by omega)) (⟨rfl, ?_⟩) (by decide) (by decide)
      rw [b2_f]
      intro q
      rw [b2_t (by omega)] at h29
      omega
    · have h29' : 0 ≤ col ∧ col ≤ (colsS S : Int) - M_.1 5 o 4 := Decidable.byContradiction fun q => h29 (b2_f q)
      refine w_iconst C dX0_reaches_32 ?_
      refine w_goto C dX0_reaches_33 ?_
      refine w_iret C hr dX0_reaches_37 (by first | exact narrow_z (b2_01 _) | exact narrow_z (by omega)) (⟨rfl, by rw [b2_t (by omega)]⟩) (by decide) (by decide)
def noFl (S : Sg) : Sg := fun f i j => if f = 5 ∨ f = 4 then 0 else S f i j
theorem c_X0_forgetFlaws (hl : l.stackTraces = false) {S : Sg} (hG : GInv S) (hM : RepCl S M) : Con l b0 yX0_forgetFlaws cX0_forgetFlaws 1 none 4 0 0 [aO 1 0] ad (cnt ns nt) M (fun r9 M' => Fr ctK M M' ∧ RepCl (noFl S) M' ∧ r9 = none) noX := by
  obtain ⟨⟨h1, h2, h3, h4, h5, h6⟩, h7⟩ := hM
  obtain ⟨g1, g2, g3, g4, g5, g6, g7, g8, g9, g10⟩ := hG
  refine Con.of hl pl_X0 (Nat.le_of_ble_eq_true rfl) ?_
  intro D cA p e s m args below meth c C hr
  refine w_aload_n C dX0_forgetFlaws_0 rfl ?_
  refine g_X0_15 C dX0_forgetFlaws_1 (by first | assumption | exact Nat.zero_lt_one | exact Nat.zero_lt_two | exact Nat.one_lt_two) ?_
  refine w_iconst C dX0_forgetFlaws_4 ?_
  refine w_callS C dX0_forgetFlaws_5 (c_J7_fill hl IA_20 Nat.zero_lt_one 0) mJ7_fill_53178 sJ7_fill_53178 lk_X0_53 rfl rfl ⟨by first | decide | (simp only [rmd]; omega), by first | decide | (simp only [rmd]; omega), by first | decide | (simp only [rmd]; omega), by first | decide | (simp only [rmd]; omega)⟩ (Nat.le_of_ble_eq_true rfl) (fun _ _ h => h.elim) ⟨by decide, by decide⟩ (fun r_ M_ q5 => ?_)
  obtain ⟨f1, f2, f3, f4, rfl⟩ := q5
  refine w_aload_n C dX0_forgetFlaws_8 rfl ?_
  refine w_iconst C dX0_forgetFlaws_9 ?_
  refine p_X0_50 C dX0_forgetFlaws_10 (by first | assumption | exact Nat.zero_lt_one | exact Nat.zero_lt_two | exact Nat.one_lt_two) ?_
  refine w_aload_n C dX0_forgetFlaws_13 rfl ?_
  have f1a := (f1 1 0 (fun q => absurd q.1 (by decide))).1
  have hM1 : RepCt (noFl S) (uI M_ 1 0 4 0) := by
    refine ⟨by rw [uI_get, if_neg (fun q => absurd q.2.2 (by decide)), f1a]; exact h1, by rw [uI_get, if_neg (fun q => absurd q.2.2 (by decide)), f1a]; exact h2, by rw [uI_get, if_neg (fun q => absurd q.2.2 (by decide)), f1a]; exact h3, by rw [uI_get, if_neg (fun q => absurd q.2.2 (by decide)), f1a]; exact h4, rfl, fun r hr => ?_⟩
    rw [uI_get, if_neg (fun q => absurd q.1 (by decide)), f3 r hr, bitsN_0.mpr (fun i _ => by simp [noFl])]
    rfl
  have hG1 : GInv (noFl S) := by
    refine ⟨g1, g2, g3, g4, Nat.zero_le _, g6, g7, fun r c hr hc hq => absurd rfl hq, fun k hk => Nat.zero_le _, g10⟩
  refine w_callV C dX0_forgetFlaws_14 (c_X0_spoilRows hl hG1 hM1) mX0_spoilRows vX0_spoilRows lk_X0_35 (by first | assumption | exact Nat.zero_lt_one | exact Nat.zero_lt_two | exact Nat.one_lt_two) rfl rfl rfl rfl ⟨by first | decide | (simp only [rmd]; omega), by first | decide | (simp only [rmd]; omega), by first | decide | (simp only [rmd]; omega), by first | decide | (simp only [rmd]; omega)⟩ (Nat.le_of_ble_eq_true rfl) (fun _ _ h => h.elim) ⟨by decide, by decide⟩ (fun r_ M_ q14 => ?_)
  obtain ⟨k1, k2, rfl⟩ := q14
  refine w_vret C hr dX0_forgetFlaws_17 (⟨(Fr.uI (f1.mono (fun k i q => by simp [ctK, q])) (by simp [ctK])).tr (k1.mono (fun k i q => by simp [spK] at q; simp [ctK, q])), k2, rfl⟩) (by decide) (by decide)
end Cloth
