/-! the room: cutPlies and spread -/
def spS (S : Sg) (P : List Pc) (k n r : Nat) : Sg := fun f i q => if f = 14 ∧ i < n ∧ q ≤ 1 then S 14 i q + k * perS S P i q else if f = 18 ∧ i = 0 ∧ q = 0 then r else S f i q
def rowsS (S : Sg) (P : List Pc) (k : Nat) : Nat := k * lenR S P * (if fdS S = 1 then 2 else 1)
def fitB (S : Sg) (P : List Pc) (k : Nat) : Nat → Bool
  | 0 => true
  | n + 1 => fitB S P k n && decide (stS S n 0 + k * perS S P n 0 ≤ 9999) && decide (stS S n 1 + k * perS S P n 1 ≤ 9999)
theorem fitB_iff {S : Sg} {P : List Pc} {k n : Nat} : fitB S P k n = true ↔ fitS S P k n := by
  induction n with
  | zero => exact ⟨fun _ => trivial, fun _ => rfl⟩
  | succ n ih =>
    unfold fitB fitS
    rw [Bool.and_eq_true, Bool.and_eq_true, ih, decide_eq_true_iff, decide_eq_true_iff, and_assoc]
def oSpread (a : Int) (S : Sg) (P : List Pc) (nx : Nat) : Res := if ¬ (1 ≤ a ∧ a ≤ 50) then (1, 0, S, P, nx) else if P.length = 0 then (2, 0, S, P, nx) else if rlS S < rowsS S P a.toNat ∨ ¬ fitB S P a.toNat (nsS S) = true then (3, 0, S, P, nx) else (0, ((rlS S - rowsS S P a.toNat : Nat) : Int), spS S P a.toNat (nsS S) (rlS S - rowsS S P a.toNat), P, nx)
theorem perS_sp {S : Sg} {P : List Pc} {k n r j w : Nat} : perS (spS S P k n r) P j w = perS S P j w := rfl
theorem lenR_le (S : Sg) (P : List Pc) : lenR S P ≤ 60 := lenF_le _ _
section Rm
variable {l : Launch} {b0 : Nat} {ad : Ads} {ns nt : Nat} {M : Mem}
theorem c_X6_cutPlies (hl : l.stackTraces = false) {S : Sg} {P : List Pc} {nx : Nat} (hI : Inv S P nx) (hns : nsS S ≤ ns) (hR : RepRoom S P nx M) (j : Nat) (hj : j < nsS S) (k : Nat) (hk : k ≤ 50) : Con l b0 yX6_cutPlies cX6_cutPlies 3 none 4 0 0 [aO 0 0, aO 4 j, aI k] ad ns nt M (fun r9 M' => M' = uL (uI (uI M 4 j 8 ((stS S j 0 + k * perS S P j 0 : Nat) : Int)) 4 j 9 ((stS S j 1 + k * perS S P j 1 : Nat) : Int)) 4 j 10 ((eS S j + (k * perS S P j 0 + k * perS S P j 1) : Nat) : Int) ∧ r9 = none) noX := by
  have hR' := hR
  obtain ⟨hCl, hSh, hM, hSt, hRm, hTr⟩ := hR'
  have i4 : inD ns nt 4 j := by
    show j < ns
    omega
  obtain ⟨s1, ⟨s2, s3, s4⟩, s5⟩ := hSh j hj
  have c0 : k * perS S P j 0 ≤ 50 * 80 := Nat.mul_le_mul hk (perS_le hI.2.2.1 j 0)
  have c1 : k * perS S P j 1 ≤ 50 * 80 := Nat.mul_le_mul hk (perS_le hI.2.2.1 j 1)
  refine Con.of hl pl_X6 (Nat.le_of_ble_eq_true rfl) ?_
  intro D cA p e s m args below meth c C hr
  refine w_aload_n C dX6_cutPlies_0 rfl ?_
  refine w_ifnull C dX6_cutPlies_1 (fun h1 => ?_) (fun h1 => ?_)
  · cases h1
  · refine w_aload_n C dX6_cutPlies_4 rfl ?_
    refine w_iload_n C dX6_cutPlies_5 rfl ?_
    refine w_aload_n C dX6_cutPlies_6 rfl ?_
    refine w_aload_n C dX6_cutPlies_7 rfl ?_
    refine w_iconst C dX6_cutPlies_8 ?_
    refine w_callV C dX6_cutPlies_9 (c_X6_perPly hl hI hns hR j hj 0 (by omega)) mX6_perPly vX6_perPly lk_X6_379 (by first | assumption | exact Nat.zero_lt_one | exact Nat.zero_lt_two | exact Nat.one_lt_two) rfl rfl rfl rfl ⟨by decide, by decide, by decide, by decide⟩ (Nat.le_of_ble_eq_true rfl) (fun _ _ h => h.elim) ⟨by decide, by decide⟩ (fun r_ M_ q9 => ?_)
    obtain ⟨rfl, rfl⟩ := q9
    refine w_imul C dX6_cutPlies_12 ?_
    refine w_iload_n C dX6_cutPlies_13 rfl ?_
    refine w_aload_n C dX6_cutPlies_14 rfl ?_
    refine w_aload_n C dX6_cutPlies_15 rfl ?_
    refine w_iconst C dX6_cutPlies_16 ?_
    refine w_callV C dX6_cutPlies_17 (c_X6_perPly hl hI hns hR j hj 1 (by omega)) mX6_perPly vX6_perPly lk_X6_379 (by first | assumption | exact Nat.zero_lt_one | exact Nat.zero_lt_two | exact Nat.one_lt_two) rfl rfl rfl rfl ⟨by decide, by decide, by decide, by decide⟩ (Nat.le_of_ble_eq_true rfl) (fun _ _ h => h.elim) ⟨by decide, by decide⟩ (fun r_ M_ q17 => ?_)
    obtain ⟨rfl, rfl⟩ := q17
    refine w_imul C dX6_cutPlies_20 ?_
    refine w_callV C dX6_cutPlies_21 (c_X4_receive hl i4 ((k : Int) * (perS S P j 0 : Nat)) ((k : Int) * (perS S P j 1 : Nat)) (by omega) (by omega)) mX4_receive vX4_receive lk_X6_386 (by first | assumption | exact Nat.zero_lt_one | exact Nat.zero_lt_two | exact Nat.one_lt_two) rfl rfl rfl rfl ⟨by decide, by decide, by decide, by decide⟩ (Nat.le_of_ble_eq_true rfl) (fun _ _ h => h.elim) ⟨by decide, by decide⟩ (fun r_ M2 q21 => ?_)
    obtain ⟨k1, rfl⟩ := q21
    refine w_vret C hr dX6_cutPlies_24 (⟨?_, rfl⟩) (by decide) (by decide)
    rw [k1, s2, s3, s4]
    rfl
theorem c_X6_spread (hl : l.stackTraces = false) {S : Sg} {P : List Pc} {nx : Nat} (hI : Inv S P nx) (hns : nsS S ≤ ns) (hR : RepRoom S P nx M) (a : Int) (ha : -2147483648 ≤ a ∧ a ≤ 2147483647) : Con l b0 yX6_spread cX6_spread 4 (some .int) 9 1 6 [aO 0 0, aI a] ad ns nt M (okR (oSpread a S P nx)) (exR (oSpread a S P nx) [eIA, eUO, eIS]) := by
  have hR' := hR
  obtain ⟨hCl, hSh, ⟨f, hM⟩, hSt, hRm, hTr⟩ := hR'
  have b1 := b2_01 (1 ≤ a ∧ a ≤ 50)
  have hP40 := hI.2.2.1
  have hfd := hI.1.2.2.1
  have hrl := hI.1.2.2.2.2.2.2.2.2.2.2.2
  refine Con.of hl pl_X6 (Nat.le_of_ble_eq_true rfl) ?_
  intro D cA p e s m args below meth c C hr
  refine w_iload_n C dX6_spread_0 rfl ?_
  refine w_iconst C dX6_spread_1 ?_
  refine w_bipush (v := 50) C dX6_spread_2 rfl ?_
  refine w_callS C dX6_spread_4 (c_X6_isWithin hl a 1 50 (by omega) (by omega) (by omega)) mX6_isWithin sX6_isWithin lk_X6_48 rfl rfl ⟨by decide, by decide, by decide, by decide⟩ (Nat.le_of_ble_eq_true rfl) (fun _ _ h => h.elim) ⟨by decide, by decide⟩ (fun r_ M_ q4 => ?_)
  obtain ⟨rfl, rfl⟩ := q4
  refine w_if_ne C dX6_spread_7 (by omega) (fun h7 => ?_) (fun h7 => ?_)
  · have y1 : 1 ≤ a ∧ a ≤ 50 := Decidable.byContradiction fun q => h7 (b2_f q)
    obtain ⟨k, rfl⟩ := Int.eq_ofNat_of_zero_le (show 0 ≤ a by omega)
    have hlen := lenR_le S P
    have hkl : k * lenR S P ≤ 50 * 60 := Nat.mul_le_mul (by omega) hlen
    refine w_aload_n C dX6_spread_21 rfl ?_
    refine g_X6_19 C dX6_spread_22 (by first | assumption | exact Nat.zero_lt_one | exact Nat.zero_lt_two | exact Nat.one_lt_two) ?_
    refine g_X6_59 C dX6_spread_25 (by first | assumption | exact Nat.zero_lt_one | exact Nat.zero_lt_two | exact Nat.one_lt_two) ?_
    rw [hM.1]
    refine w_if_ne C dX6_spread_28 (by omega) (fun h28 => ?_) (fun h28 => ?_)
    · refine w_iload_n C dX6_spread_42 rfl ?_
      refine w_aload_n C dX6_spread_43 rfl ?_
      refine g_X6_19 C dX6_spread_44 (by first | assumption | exact Nat.zero_lt_one | exact Nat.zero_lt_two | exact Nat.one_lt_two) ?_
      refine w_callV C dX6_spread_47 (c_X1_rowsUsed hl (show inD ns nt 2 0 from Nat.zero_lt_two) hM) mX1_rowsUsed vX1_rowsUsed lk_X6_219 (by first | assumption | exact Nat.zero_lt_one | exact Nat.zero_lt_two | exact Nat.one_lt_two) rfl rfl rfl rfl ⟨by decide, by decide, by decide, by decide⟩ (Nat.le_of_ble_eq_true rfl) (fun _ _ h => h.elim) ⟨by decide, by decide⟩ (fun r_ M_ q47 => ?_)
      obtain ⟨rfl, rfl⟩ := q47
      sorry
    · refine w_throwW C tk_96_100 ts_364 dX6_spread_31 dX6_spread_34 dX6_spread_35 dX6_spread_38 dX6_spread_41 ⟨by decide, by decide, by decide, by decide⟩ (Nat.le_of_ble_eq_true rfl) (exR_of (i := 1) (by unfold oSpread; rw [if_neg (fun q => q y1), if_pos (by omega)]) rfl hR) (by decide) (by decide)
  · refine w_throwW C tk_52_56 ts_362 dX6_spread_10 dX6_spread_13 dX6_spread_14 dX6_spread_17 dX6_spread_20 ⟨by decide, by decide, by decide, by decide⟩ (Nat.le_of_ble_eq_true rfl) (exR_of (i := 0) (by unfold oSpread; rw [if_pos (fun q => h7 (by rw [b2_t q]; decide))]) rfl hR) (by decide) (by decide)
end Rm
