/-! the room: plies -/
def pfs (m : Int) (k : Nat) : Int := if m ≤ 0 then 0 else if 0 < k then (m + k - 1) / k else -1
def pfp (S : Sg) (P : List Pc) (j : Nat) (m : Int) : Int := if pfs (m - stS S j 0) (perS S P j 0) = -1 ∨ (paS S j = 1 ∧ pfs (m - stS S j 1) (perS S P j 1) = -1) then -1 else if paS S j = 1 then max (pfs (m - stS S j 0) (perS S P j 0)) (pfs (m - stS S j 1) (perS S P j 1)) else max (pfs (m - stS S j 0) (perS S P j 0)) 0
def fitS (S : Sg) (P : List Pc) (k : Nat) : Nat → Prop
  | 0 => True
  | n + 1 => fitS S P k n ∧ stS S n 0 + k * perS S P n 0 ≤ 9999 ∧ stS S n 1 + k * perS S P n 1 ≤ 9999
theorem fitS_iff {S : Sg} {P : List Pc} {k n : Nat} : fitS S P k n ↔ ∀ i, i < n → stS S i 0 + k * perS S P i 0 ≤ 9999 ∧ stS S i 1 + k * perS S P i 1 ≤ 9999 := by
  induction n with
  | zero => exact ⟨fun _ i hi => absurd hi (Nat.not_lt_zero i), fun _ => trivial⟩
  | succ n ih =>
    unfold fitS
    rw [ih]
    constructor
    · rintro ⟨h1, h2⟩ i hi
      by_cases h : i = n
      · subst h; exact h2
      · exact h1 i (by omega)
    · intro h
      exact ⟨fun i hi => h i (by omega), h n (by omega)⟩
theorem pfs_bd {m : Int} {k : Nat} (hm : m ≤ 1000000) : -1 ≤ pfs m k ∧ pfs m k ≤ 1000000 := by
  unfold pfs
  split
  · omega
  · split
    · rename_i h1 h2
      have h3 : 0 ≤ (m + k - 1) / (k : Int) := Int.ediv_nonneg (by omega) (by omega)
      have h4 : (m + k - 1) / (k : Int) ≤ m := by
        refine Int.ediv_le_of_le_mul (by omega) ?_
        have h5 : m * 1 ≤ m * (k : Int) := Int.mul_le_mul_of_nonneg_left (by omega) (by omega)
        have h6 : 1 * (k : Int) ≤ m * (k : Int) := Int.mul_le_mul_of_nonneg_right (by omega) (by omega)
        have h7 : (m - 1) * ((k : Int) - 1) ≥ 0 := Int.mul_nonneg (by omega) (by omega)
        have h8 : (m - 1) * ((k : Int) - 1) = m * k - m - k + 1 := by
          rw [Int.sub_mul, Int.mul_sub, Int.mul_one, Int.one_mul]
          omega
        omega
      omega
    · omega
section Rm
variable {l : Launch} {b0 : Nat → Prop} {ad : Ads} {ns nt : Nat} {M : Mem}
theorem c_X6_checkGarments (hl : l.stackTraces = false) (t : Int) (ht : -2147483648 ≤ t ∧ t ≤ 2147483647) : Con l b0 yX6_checkGarments cX6_checkGarments 1 none 9 1 6 [aI t] ad (cnt ns nt) M (fun r9 M' => M' = M ∧ (1 ≤ t ∧ t ≤ 99) ∧ r9 = none) (fun E M' => E = eIA ∧ M' = M ∧ ¬ (1 ≤ t ∧ t ≤ 99)) := by
  have b1 := b2_01 (1 ≤ t ∧ t ≤ 99)
  refine Con.of hl pl_X6 (Nat.le_of_ble_eq_true rfl) ?_
  intro D cA p e s m args below meth c C hr
  refine w_iload_n C dX6_checkGarments_0 rfl ?_
  refine w_iconst C dX6_checkGarments_1 ?_
  refine w_bipush (v := 99) C dX6_checkGarments_2 rfl ?_
  refine w_callS C dX6_checkGarments_4 (c_X6_isWithin hl t 1 99 (by omega) (by omega) (by omega)) mX6_isWithin sX6_isWithin lk_X6_48 rfl rfl ⟨by decide, by decide, by decide, by decide⟩ (Nat.le_of_ble_eq_true rfl) (fun _ _ h => h.elim) ⟨by decide, by decide⟩ (fun r_ M_ q4 => ?_)
  obtain ⟨rfl, rfl⟩ := q4
  refine w_if_ne C dX6_checkGarments_7 (by omega) (fun h7 => ?_) (fun h7 => ?_)
  · refine w_vret C hr dX6_checkGarments_21 (⟨rfl, Decidable.byContradiction fun q => h7 (b2_f q), rfl⟩) (by decide) (by decide)
  · refine w_throwW C tk_52_56 ts_422 dX6_checkGarments_10 dX6_checkGarments_13 dX6_checkGarments_14 dX6_checkGarments_17 dX6_checkGarments_20 ⟨by decide, by decide, by decide, by decide⟩ (Nat.le_of_ble_eq_true rfl) (⟨rfl, rfl, fun q => h7 (by rw [b2_t q]; decide)⟩) (by decide) (by decide)
theorem c_X6_pliesForSort (hl : l.stackTraces = false) (m9 : Int) (k : Nat) (hm : -1000000 ≤ m9 ∧ m9 ≤ 1000000) (hk : k ≤ 80) : Con l b0 yX6_pliesForSort cX6_pliesForSort 2 (some .int) 1 0 0 [aI m9, aI k] ad (cnt ns nt) M (fun r9 M' => M' = M ∧ r9 = some (aI (pfs m9 k))) noX := by
  refine Con.of hl pl_X6 (Nat.le_of_ble_eq_true rfl) ?_
  intro D cA p e s m args below meth c C hr
  refine w_iload_n C dX6_pliesForSort_0 rfl ?_
  refine w_if_gt C dX6_pliesForSort_1 (by omega) (fun h1 => ?_) (fun h1 => ?_)
  · refine w_iload_n C dX6_pliesForSort_6 rfl ?_
    refine w_if_le C dX6_pliesForSort_7 (by omega) (fun h7 => ?_) (fun h7 => ?_)
    · refine w_iconst C dX6_pliesForSort_20 ?_
      refine w_iret C hr dX6_pliesForSort_21 rfl (⟨rfl, by unfold pfs; rw [if_neg (by omega), if_neg (by omega)]⟩) (by decide) (by decide)
    · refine w_iload_n C dX6_pliesForSort_10 rfl ?_
      refine w_iload_n C dX6_pliesForSort_11 rfl ?_
      refine w_iadd C dX6_pliesForSort_12 ?_
      refine w_iconst C dX6_pliesForSort_13 ?_
      refine w_isub C dX6_pliesForSort_14 ?_
      refine w_iload_n C dX6_pliesForSort_15 rfl ?_
      refine w_idiv C dX6_pliesForSort_16 (by omega) (by omega) ?_
      refine w_goto C dX6_pliesForSort_17 ?_
      refine w_iret C hr dX6_pliesForSort_21 rfl (⟨rfl, by unfold pfs; rw [if_neg (by omega), if_pos (by omega)]⟩) (by decide) (by decide)
  · refine w_iconst C dX6_pliesForSort_4 ?_
    refine w_iret C hr dX6_pliesForSort_5 rfl (⟨rfl, by unfold pfs; rw [if_pos (by omega)]⟩) (by decide) (by decide)
theorem c_X6_stockHolds (hl : l.stackTraces = false) {S : Sg} {P : List Pc} {nx : Nat} (hI : Inv S P nx) (hns : nsS S ≤ ns) (hR : RepRoom S P nx M) (k : Nat) (hk : k ≤ 50) : Con l b0 yX6_stockHolds cX6_stockHolds 4 (some .boolean) 4 0 0 [aO 0 0, aI k] ad (cnt ns nt) M (fun r9 M' => M' = M ∧ ∃ z : Int, r9 = some (aI z) ∧ (z = 0 ∨ z = 1) ∧ (z = 1 ↔ fitS S P k (nsS S))) noX := by
  have hR' := hR
  obtain ⟨hCl, hSh, hM, hSt, hRm, hTr⟩ := hR'
  have g6 := hI.1.2.2.2.2.2.1
  have hcnt := hRm.1
  refine Con.of hl pl_X6 (Nat.le_of_ble_eq_true rfl) ?_
  intro D cA p e s m args below meth c C hr
  have loop : ∀ (b n : Nat), n + b = nsS S → fitS S P k n → Wm p l e (rmd 4 0 0) s m args below meth c 4 D cA b0 0 0 (vx_MQ below (mQ D cA b0 ad (cnt ns nt) (fun r9 M' => M' = M ∧ ∃ z : Int, r9 = some (aI z) ∧ (z = 0 ∨ z = 1) ∧ (z = 1 ↔ fitS S P k (nsS S)))) (mX D cA b0 ad (cnt ns nt) noX) args s 0 0 b0) 2 [(0, aO 0 0), (1, aI k), (2, aI n)] [] ad (cnt ns nt) M := by
    intro b
    induction b with
    | zero =>
      intro n hn hf
      refine w_iload_n C dX6_stockHolds_2 rfl ?_
      refine w_aload_n C dX6_stockHolds_3 rfl ?_
      refine g_X6_123 C dX6_stockHolds_4 (by first | assumption | exact Nat.zero_lt_one | exact Nat.zero_lt_two | exact Nat.one_lt_two) ?_
      rw [hcnt]
      refine w_icmp_ge C dX6_stockHolds_7 (by omega) (by omega) (fun h7 => ?_) (fun h7 => ?_)
      · refine w_iconst C dX6_stockHolds_66 ?_
        refine w_iret C hr dX6_stockHolds_67 (by first | exact narrow_z (b2_01 _) | exact narrow_z (by omega)) (⟨rfl, 1, rfl, Or.inr rfl, ⟨fun _ => by rw [show nsS S = n by omega]; exact hf, fun _ => rfl⟩⟩) (by decide) (by decide)
      · omega
    | succ b ih =>
      intro n hn hf
      have i4 : inD (cnt ns nt) 4 n := by
        show n < ns
        omega
      obtain ⟨s1, ⟨s2, s3, s4⟩, s5⟩ := hSh n (by omega)
      obtain ⟨p1, p2, p3, p4, p5, p6, p7, p8, p9⟩ := hI.1.2.2.2.2.2.2.2.2.2.1 n
      have c0 : k * perS S P n 0 ≤ 50 * 80 := Nat.mul_le_mul hk (perS_le hI.2.2.1 n 0)
      have c1 : k * perS S P n 1 ≤ 50 * 80 := Nat.mul_le_mul hk (perS_le hI.2.2.1 n 1)
      have no : ∀ lv, ¬ (stS S n 0 + k * perS S P n 0 ≤ 9999 ∧ stS S n 1 + k * perS S P n 1 ≤ 9999) → Wm p l e (rmd 4 0 0) s m args below meth c 4 D cA b0 0 0 (vx_MQ below (mQ D cA b0 ad (cnt ns nt) (fun r9 M' => M' = M ∧ ∃ z : Int, r9 = some (aI z) ∧ (z = 0 ∨ z = 1) ∧ (z = 1 ↔ fitS S P k (nsS S)))) (mX D cA b0 ad (cnt ns nt) noX) args s 0 0 b0) 58 lv [] ad (cnt ns nt) M := by
        intro lv h9
        refine w_iconst C dX6_stockHolds_58 ?_
        refine w_iret C hr dX6_stockHolds_59 (by first | exact narrow_z (b2_01 _) | exact narrow_z (by omega)) (⟨rfl, 0, rfl, Or.inl rfl, ⟨fun q => by omega, fun q => absurd (fitS_iff.mp q n (by omega)) h9⟩⟩) (by decide) (by decide)
      refine w_iload_n C dX6_stockHolds_2 rfl ?_
      refine w_aload_n C dX6_stockHolds_3 rfl ?_
      refine g_X6_123 C dX6_stockHolds_4 (by first | assumption | exact Nat.zero_lt_one | exact Nat.zero_lt_two | exact Nat.one_lt_two) ?_
      rw [hcnt]
      refine w_icmp_ge C dX6_stockHolds_7 (by omega) (by omega) (fun h7 => ?_) (fun h7 => ?_)
      · omega
      · refine w_aload_n C dX6_stockHolds_10 rfl ?_
        refine w_iload_n C dX6_stockHolds_11 rfl ?_
        refine w_callV C dX6_stockHolds_12 (c_X6_shapeNumbered hl hI.1 hRm (n : Int) (by omega)) mX6_shapeNumbered vX6_shapeNumbered lk_X6_169 (by first | assumption | exact Nat.zero_lt_one | exact Nat.zero_lt_two | exact Nat.one_lt_two) rfl rfl rfl rfl ⟨by decide, by decide, by decide, by decide⟩ (Nat.le_of_ble_eq_true rfl) (fun _ _ h => h.elim) ⟨by decide, by decide⟩ (fun r_ M_ q12 => ?_)
        obtain ⟨rfl, rfl⟩ := q12
        rw [if_pos (by omega), Int.toNat_natCast]
        refine w_astore_n C dX6_stockHolds_15 (by decide) ?_
        refine w_aload_n C dX6_stockHolds_16 rfl ?_
        refine w_ifnull C dX6_stockHolds_17 (fun h17 => ?_) (fun h17 => ?_)
        · cases h17
        · refine w_aload_n C dX6_stockHolds_20 rfl ?_
          refine g_X6_376 C dX6_stockHolds_21 (by first | assumption | exact Nat.zero_lt_one | exact Nat.zero_lt_two | exact Nat.one_lt_two) ?_
          rw [s2]
          refine w_iload_n C dX6_stockHolds_24 rfl ?_
          refine w_aload_n C dX6_stockHolds_25 rfl ?_
          refine w_aload_n C dX6_stockHolds_26 rfl ?_
          refine w_iconst C dX6_stockHolds_27 ?_
          refine w_callV C dX6_stockHolds_28 (c_X6_perPly hl hI hns hR n (by omega) 0 (by omega)) mX6_perPly vX6_perPly lk_X6_379 (by first | assumption | exact Nat.zero_lt_one | exact Nat.zero_lt_two | exact Nat.one_lt_two) rfl rfl rfl rfl ⟨by decide, by decide, by decide, by decide⟩ (Nat.le_of_ble_eq_true rfl) (fun _ _ h => h.elim) ⟨by decide, by decide⟩ (fun r_ M_ q28 => ?_)
          obtain ⟨rfl, rfl⟩ := q28
          refine w_imul C dX6_stockHolds_31 ?_
          refine w_iadd C dX6_stockHolds_32 ?_
          refine Wm.top (v' := aI ((stS S n 0 + k * perS S P n 0 : Nat) : Int)) rfl ?_
          refine w_sipush (v := 9999) C dX6_stockHolds_33 rfl ?_
          refine w_icmp_gt C dX6_stockHolds_36 (by omega) (by omega) (fun h36 => ?_) (fun h36 => ?_)
          · exact no _ (by omega)
          · refine w_aload_n C dX6_stockHolds_39 rfl ?_
            refine g_X6_383 C dX6_stockHolds_40 (by first | assumption | exact Nat.zero_lt_one | exact Nat.zero_lt_two | exact Nat.one_lt_two) ?_
            rw [s3]
            refine w_iload_n C dX6_stockHolds_43 rfl ?_
            refine w_aload_n C dX6_stockHolds_44 rfl ?_
            refine w_aload_n C dX6_stockHolds_45 rfl ?_
            refine w_iconst C dX6_stockHolds_46 ?_
            refine w_callV C dX6_stockHolds_47 (c_X6_perPly hl hI hns hR n (by omega) 1 (by omega)) mX6_perPly vX6_perPly lk_X6_379 (by first | assumption | exact Nat.zero_lt_one | exact Nat.zero_lt_two | exact Nat.one_lt_two) rfl rfl rfl rfl ⟨by decide, by decide, by decide, by decide⟩ (Nat.le_of_ble_eq_true rfl) (fun _ _ h => h.elim) ⟨by decide, by decide⟩ (fun r_ M_ q47 => ?_)
            obtain ⟨rfl, rfl⟩ := q47
            refine w_imul C dX6_stockHolds_50 ?_
            refine w_iadd C dX6_stockHolds_51 ?_
            refine Wm.top (v' := aI ((stS S n 1 + k * perS S P n 1 : Nat) : Int)) rfl ?_
            refine w_sipush (v := 9999) C dX6_stockHolds_52 rfl ?_
            refine w_icmp_le C dX6_stockHolds_55 (by omega) (by omega) (fun h55 => ?_) (fun h55 => ?_)
            · refine w_iinc C dX6_stockHolds_60 rfl (by decide) ?_
              refine w_goto C dX6_stockHolds_63 ?_
              exact Wm.lsub (lv' := [(0, aO 0 0), (1, aI k), (2, aI ((n + 1 : Nat) : Int))]) ⟨rfl, rfl, rfl, trivial⟩ (ih (n + 1) (by omega) ⟨hf, by omega, by omega⟩)
            · exact no _ (by omega)
  refine w_iconst C dX6_stockHolds_0 ?_
  refine w_istore_n C dX6_stockHolds_1 (by decide) ?_
  exact Wm.lsub (lv' := [(0, aO 0 0), (1, aI k), (2, aI ((0 : Nat) : Int))]) ⟨rfl, rfl, rfl, trivial⟩ (loop (nsS S) 0 (by omega) trivial)
end Rm
