/-! the room: cutPlies and spread -/
def spS (S : Sg) (P : List Pc) (k n r : Nat) : Sg := fun f i q => if f = 14 ∧ i < n ∧ q ≤ 1 then S 14 i q + k * perS S P i q else if f = 18 ∧ i = 0 ∧ q = 0 then r else S f i q
def rowsS (S : Sg) (P : List Pc) (k : Nat) : Nat := k * lenR S P * (if fdS S = 1 then 2 else 1)
def fitB (S : Sg) (P : List Pc) (k : Nat) : Nat → Bool
  | 0 => true
  | n + 1 => fitB S P k n && decide (stS S n 0 + k * perS S P n 0 ≤ 9999) && decide (stS S n 1 + k * perS S P n 1 ≤ 9999)
theorem fitB_iff {S : Sg} {P : List Pc} {k n : Nat} : fitB S P k n = true ↔ fitS S P k n := by
  induction n with
  | zero => exact ⟨fun _ => trivial, fun _ => rfl⟩
  | succ n ih =>
    unfold fitB fitS
    rw [Bool.and_eq_true, Bool.and_eq_true, ih, decide_eq_true_iff, decide_eq_true_iff, and_assoc]
def oSpread (a : Int) (S : Sg) (P : List Pc) (nx : Nat) : Res := if ¬ (1 ≤ a ∧ a ≤ 50) then (1, 0, S, P, nx) else if P.length = 0 then (2, 0, S, P, nx) else if rlS S < rowsS S P a.toNat ∨ ¬ fitB S P a.toNat (nsS S) = true then (3, 0, S, P, nx) else (0, ((rlS S - rowsS S P a.toNat : Nat) : Int), spS S P a.toNat (nsS S) (rlS S - rowsS S P a.toNat), P, nx)
theorem perS_sp {S : Sg} {P : List Pc} {k n r j w : Nat} : perS (spS S P k n r) P j w = perS S P j w := rfl
theorem lenR_le (S : Sg) (P : List Pc) : lenR S P ≤ 60 := lenF_le _ _
theorem sp_14 {S : Sg} {P : List Pc} {k n r i q : Nat} (hq : q ≤ 1) : stS (spS S P k n r) i q = if i < n then stS S i q + k * perS S P i q else stS S i q := by
  show spS S P k n r 14 i q = _
  unfold spS
  by_cases h : i < n
  · rw [if_pos ⟨rfl, h, hq⟩, if_pos h]
  · rw [if_neg (fun z => h z.2.1), if_neg (fun z => absurd z.1 (by decide)), if_neg h]
theorem sp_ag {S : Sg} {P : List Pc} {k n r f i q : Nat} (h : ¬ (f = 14 ∧ i = n)) : spS S P k (n + 1) r f i q = spS S P k n r f i q := by
  unfold spS
  by_cases h1 : f = 14 ∧ i < n ∧ q ≤ 1
  · rw [if_pos ⟨h1.1, by omega, h1.2.2⟩, if_pos h1]
  · rw [if_neg (fun z => h1 ⟨z.1, by omega, z.2.2⟩), if_neg h1]
theorem eS_sp {S : Sg} {P : List Pc} {k n r : Nat} : eS (spS S P k (n + 1) r) n = eS (spS S P k n r) n + (k * perS S P n 0 + k * perS S P n 1) := by
  have hg : garS (spS S P k (n + 1) r) n = garS (spS S P k n r) n := rfl
  unfold eS
  rw [hg, sp_14 (by omega), sp_14 (by omega), sp_14 (by omega), sp_14 (by omega), if_pos (by omega), if_pos (by omega), if_neg (by omega), if_neg (by omega)]
  omega
theorem GInv.sp {S : Sg} {P : List Pc} {k n r : Nat} (hG : GInv S) (hr : r ≤ 999999) (hf : fitS S P k n) : GInv (spS S P k n r) := by
  obtain ⟨g1, g2, g3, g4, g5, g6, g7, g8, g9, g10, g11, g12⟩ := hG
  refine ⟨g1, g2, g3, g4, g5, g6, g7, g8, g9, fun j => ?_, g11, hr⟩
  obtain ⟨p1, p2, p3, p4, p5, p6, p7, p8, p9⟩ := g10 j
  refine ⟨p1, p2, p3, p4, p5, p6, ?_, ?_, p9⟩
  · rw [sp_14 (by omega)]
    split
    · rename_i h
      exact (fitS_iff.mp hf j h).1
    · exact p7
  · rw [sp_14 (by omega)]
    split
    · rename_i h
      exact (fitS_iff.mp hf j h).2
    · exact p8
theorem Inv.sp {S : Sg} {P : List Pc} {nx k n r : Nat} (hI : Inv S P nx) (hr : r ≤ 999999) (hf : fitS S P k n) : Inv (spS S P k n r) P nx := ⟨GInv.sp hI.1 hr hf, hI.2.1, hI.2.2.1, hI.2.2.2⟩
section Rm
variable {l : Launch} {b0 : Nat → Prop} {ad : Ads} {ns nt : Nat} {M : Mem}
theorem c_X6_cutPlies (hl : l.stackTraces = false) {S : Sg} {P : List Pc} {nx : Nat} (hI : Inv S P nx) (hns : nsS S ≤ ns) (hR : RepRoom S P nx M) (j : Nat) (hj : j < nsS S) (k : Nat) (hk : k ≤ 50) : Con l b0 yX6_cutPlies cX6_cutPlies 3 none 4 0 0 [aO 0 0, aO 4 j, aI k] ad (cnt ns nt) M (fun r9 M' => M' = uL (uI (uI M 4 j 8 ((stS S j 0 + k * perS S P j 0 : Nat) : Int)) 4 j 9 ((stS S j 1 + k * perS S P j 1 : Nat) : Int)) 4 j 10 ((eS S j + (k * perS S P j 0 + k * perS S P j 1) : Nat) : Int) ∧ r9 = none) noX := by
  have hR' := hR
  obtain ⟨hCl, hSh, hM, hSt, hRm, hTr⟩ := hR'
  have i4 : inD (cnt ns nt) 4 j := by
    show j < ns
    omega
  obtain ⟨s1, ⟨s2, s3, s4⟩, s5⟩ := hSh j hj
  have c0 : k * perS S P j 0 ≤ 50 * 80 := Nat.mul_le_mul hk (perS_le hI.2.2.1 j 0)
  have c1 : k * perS S P j 1 ≤ 50 * 80 := Nat.mul_le_mul hk (perS_le hI.2.2.1 j 1)
  refine Con.of hl pl_X6 (Nat.le_of_ble_eq_true rfl) ?_
  intro D cA p e s m args below meth c C hr
  refine w_aload_n C dX6_cutPlies_0 rfl ?_
  refine w_ifnull C dX6_cutPlies_1 (fun h1 => ?_) (fun h1 => ?_)
  · cases h1
  · refine w_aload_n C dX6_cutPlies_4 rfl ?_
    refine w_iload_n C dX6_cutPlies_5 rfl ?_
    refine w_aload_n C dX6_cutPlies_6 rfl ?_
    refine w_aload_n C dX6_cutPlies_7 rfl ?_
    refine w_iconst C dX6_cutPlies_8 ?_
    refine w_callV C dX6_cutPlies_9 (c_X6_perPly hl hI hns hR j hj 0 (by omega)) mX6_perPly vX6_perPly lk_X6_379 (by first | assumption | exact Nat.zero_lt_one | exact Nat.zero_lt_two | exact Nat.one_lt_two) rfl rfl rfl rfl ⟨by decide, by decide, by decide, by decide⟩ (Nat.le_of_ble_eq_true rfl) (fun _ _ h => h.elim) ⟨by decide, by decide⟩ (fun r_ M_ q9 => ?_)
    obtain ⟨rfl, rfl⟩ := q9
    refine w_imul C dX6_cutPlies_12 ?_
    refine w_iload_n C dX6_cutPlies_13 rfl ?_
    refine w_aload_n C dX6_cutPlies_14 rfl ?_
    refine w_aload_n C dX6_cutPlies_15 rfl ?_
    refine w_iconst C dX6_cutPlies_16 ?_
    refine w_callV C dX6_cutPlies_17 (c_X6_perPly hl hI hns hR j hj 1 (by omega)) mX6_perPly vX6_perPly lk_X6_379 (by first | assumption | exact Nat.zero_lt_one | exact Nat.zero_lt_two | exact Nat.one_lt_two) rfl rfl rfl rfl ⟨by decide, by decide, by decide, by decide⟩ (Nat.le_of_ble_eq_true rfl) (fun _ _ h => h.elim) ⟨by decide, by decide⟩ (fun r_ M_ q17 => ?_)
    obtain ⟨rfl, rfl⟩ := q17
    refine w_imul C dX6_cutPlies_20 ?_
    refine w_callV C dX6_cutPlies_21 (c_X4_receive hl i4 ((k : Int) * (perS S P j 0 : Nat)) ((k : Int) * (perS S P j 1 : Nat)) (by omega) (by omega)) mX4_receive vX4_receive lk_X6_386 (by first | assumption | exact Nat.zero_lt_one | exact Nat.zero_lt_two | exact Nat.one_lt_two) rfl rfl rfl rfl ⟨by decide, by decide, by decide, by decide⟩ (Nat.le_of_ble_eq_true rfl) (fun _ _ h => h.elim) ⟨by decide, by decide⟩ (fun r_ M2 q21 => ?_)
    obtain ⟨k1, rfl⟩ := q21
    refine w_vret C hr dX6_cutPlies_24 (⟨?_, rfl⟩) (by decide) (by decide)
    rw [k1, s2, s3, s4]
    rfl
theorem c_X6_spreadN (hl : l.stackTraces = false) {S : Sg} {P : List Pc} {nx : Nat} (hI : Inv S P nx) (hns : nsS S ≤ ns) (hR : RepRoom S P nx M) (k : Nat) (y1 : 1 ≤ (k : Int) ∧ (k : Int) ≤ 50) : Con l b0 yX6_spread cX6_spread 4 (some .int) 9 1 6 [aO 0 0, aI k] ad (cnt ns nt) M (okR (oSpread k S P nx)) (exR (oSpread k S P nx) [eIA, eUO, eIS]) := by
  have hR' := hR
  obtain ⟨hCl, hSh, ⟨f, hM⟩, hSt, hRm, hTr⟩ := hR'
  have b1 := b2_01 (1 ≤ (k : Int) ∧ (k : Int) ≤ 50)
  have hP40 := hI.2.2.1
  have hfd := hI.1.2.2.1
  have hrl := hI.1.2.2.2.2.2.2.2.2.2.2.2
  refine Con.of hl pl_X6 (Nat.le_of_ble_eq_true rfl) ?_
  intro D cA p e s m args below meth c C hr
  refine w_iload_n C dX6_spread_0 rfl ?_
  refine w_iconst C dX6_spread_1 ?_
  refine w_bipush (v := 50) C dX6_spread_2 rfl ?_
  refine w_callS C dX6_spread_4 (c_X6_isWithin hl k 1 50 (by omega) (by omega) (by omega)) mX6_isWithin sX6_isWithin lk_X6_48 rfl rfl ⟨by decide, by decide, by decide, by decide⟩ (Nat.le_of_ble_eq_true rfl) (fun _ _ h => h.elim) ⟨by decide, by decide⟩ (fun r_ M_ q4 => ?_)
  obtain ⟨rfl, rfl⟩ := q4
  refine w_if_ne C dX6_spread_7 (by omega) (fun h7 => ?_) (fun h7 => ?_)
  · have hlen := lenR_le S P
    have hkl : k * lenR S P ≤ 50 * 60 := Nat.mul_le_mul (by omega) hlen
    refine w_aload_n C dX6_spread_21 rfl ?_
    refine g_X6_19 C dX6_spread_22 (by first | assumption | exact Nat.zero_lt_one | exact Nat.zero_lt_two | exact Nat.one_lt_two) ?_
    refine g_X6_59 C dX6_spread_25 (by first | assumption | exact Nat.zero_lt_one | exact Nat.zero_lt_two | exact Nat.one_lt_two) ?_
    rw [hM.1]
    refine w_if_ne C dX6_spread_28 (by omega) (fun h28 => ?_) (fun h28 => ?_)
    · refine w_iload_n C dX6_spread_42 rfl ?_
      refine w_aload_n C dX6_spread_43 rfl ?_
      refine g_X6_19 C dX6_spread_44 (by first | assumption | exact Nat.zero_lt_one | exact Nat.zero_lt_two | exact Nat.one_lt_two) ?_
      refine w_callV C dX6_spread_47 (c_X1_rowsUsed hl (show inD (cnt ns nt) 2 0 from Nat.zero_lt_two) hM) mX1_rowsUsed vX1_rowsUsed lk_X6_219 (by first | assumption | exact Nat.zero_lt_one | exact Nat.zero_lt_two | exact Nat.one_lt_two) rfl rfl rfl rfl ⟨by decide, by decide, by decide, by decide⟩ (Nat.le_of_ble_eq_true rfl) (fun _ _ h => h.elim) ⟨by decide, by decide⟩ (fun r_ M_ q47 => ?_)
      obtain ⟨rfl, rfl⟩ := q47
      have hrows : rowsS S P k ≤ 6000 := by
        unfold rowsS
        split <;> omega
      have E3 : (rlS S < rowsS S P k ∨ ¬ fitB S P k (nsS S) = true) → oSpread (k : Int) S P nx = (3, 0, S, P, nx) := fun q => by
        unfold oSpread
        rw [if_neg (fun z => z y1), if_neg (by omega), Int.toNat_natCast, if_pos q]
      have K84 : ∀ lv, (rlS S < rowsS S P k ∨ ¬ fitB S P k (nsS S) = true) → Wm p l e (rmd 9 1 6) s m args below meth c 4 D cA b0 0 0 (vx_MQ below (mQ D cA b0 ad (cnt ns nt) (okR (oSpread k S P nx))) (mX D cA b0 ad (cnt ns nt) (exR (oSpread k S P nx) [eIA, eUO, eIS])) args s 1 6 b0) 84 lv [] ad (cnt ns nt) M_ := by
        intro lv q
        refine w_throwW C tk_66_70 ts_370 dX6_spread_84 dX6_spread_87 dX6_spread_88 dX6_spread_91 dX6_spread_94 ⟨by decide, by decide, by decide, by decide⟩ (Nat.le_of_ble_eq_true rfl) (exR_of (i := 2) (E3 q) rfl hR) (by decide) (by decide)
      have K68 : Wm p l e (rmd 9 1 6) s m args below meth c 4 D cA b0 0 0 (vx_MQ below (mQ D cA b0 ad (cnt ns nt) (okR (oSpread k S P nx))) (mX D cA b0 ad (cnt ns nt) (exR (oSpread k S P nx) [eIA, eUO, eIS])) args s 1 6 b0) 68 [(0, aO 0 0), (1, aI k), (2, aI (rowsS S P k : Nat))] [] ad (cnt ns nt) M_ := by
        refine w_iload_n C dX6_spread_68 rfl ?_
        refine w_aload_n C dX6_spread_69 rfl ?_
        refine g_X6_356 C dX6_spread_70 (by first | assumption | exact Nat.zero_lt_one | exact Nat.zero_lt_two | exact Nat.one_lt_two) ?_
        rw [hRm.2.2.1]
        refine w_icmp_gt C dX6_spread_73 (by omega) (by omega) (fun h73 => ?_) (fun h73 => ?_)
        · exact K84 _ (Or.inl (by omega))
        · refine w_aload_n C dX6_spread_76 rfl ?_
          refine w_iload_n C dX6_spread_77 rfl ?_
          refine w_callV C dX6_spread_78 (c_X6_stockHolds hl hI hns hR k (by omega)) mX6_stockHolds vX6_stockHolds lk_X6_366 (by first | assumption | exact Nat.zero_lt_one | exact Nat.zero_lt_two | exact Nat.one_lt_two) rfl rfl rfl rfl ⟨by decide, by decide, by decide, by decide⟩ (Nat.le_of_ble_eq_true rfl) (fun _ _ h => h.elim) ⟨by decide, by decide⟩ (fun r_ M2 q78 => ?_)
          obtain ⟨rfl, z, rfl, hz, hzi⟩ := q78
          refine w_if_ne C dX6_spread_81 (by omega) (fun h81 => ?_) (fun h81 => ?_)
          · have hfit : fitS S P k (nsS S) := hzi.mp (by rcases hz with q | q; exact absurd q h81; exact q)
            have hr9 : ((rlS S : Int) - (rowsS S P k : Nat)) = ((rlS S - rowsS S P k : Nat) : Int) := by omega
            refine w_aload_n C dX6_spread_95 rfl ?_
            refine w_dup C dX6_spread_96 rfl ?_
            refine g_X6_356 C dX6_spread_97 (by first | assumption | exact Nat.zero_lt_one | exact Nat.zero_lt_two | exact Nat.one_lt_two) ?_
            refine w_iload_n C dX6_spread_100 rfl ?_
            refine w_isub C dX6_spread_101 ?_
            refine p_X6_356 C dX6_spread_102 (by first | assumption | exact Nat.zero_lt_one | exact Nat.zero_lt_two | exact Nat.one_lt_two) ?_
            refine w_iconst C dX6_spread_105 ?_
            refine w_istore_n C dX6_spread_106 (by decide) ?_
            rw [hRm.2.2.1, hr9]
            have hF : Fr (fun k i => k = 0 ∧ i = 0) M2 (uI M2 0 0 6 ((rlS S - rowsS S P k : Nat) : Int)) := Fr.rf.uI ⟨rfl, rfl⟩
            have n0 : ∀ {k i : Nat}, k ≠ 0 → ¬ (k = 0 ∧ i = 0) := fun h q => h q.1
            obtain ⟨hCl1, hSh1, hM1, hSt1, hRm1, hTr1⟩ := hR
            have hRm1' := hRm1
            obtain ⟨k1, k2, k3, k4, k5⟩ := hRm1'
            have e0 : spS S P k 0 (rlS S - rowsS S P k) = up3 S 18 0 0 (rlS S - rowsS S P k) := by
              funext f i q
              unfold spS up3
              rw [if_neg (fun z => absurd z.2.1 (Nat.not_lt_zero i))]
            have hR0 : RepRoom (spS S P k 0 (rlS S - rowsS S P k)) P nx (uI M2 0 0 6 ((rlS S - rowsS S P k : Nat) : Int)) := by
              rw [e0]
              exact ⟨RepCl.fr hF (n0 (by decide)) (n0 (by decide)) (n0 (by decide)) hCl1, RepSh.fr hF (fun i => ⟨n0 (by decide), n0 (by decide), n0 (by decide), n0 (by decide), n0 (by decide)⟩) hSh1, RepMk.cg (S := S) (fun p _ => ⟨rfl, rfl, rfl, rfl⟩) (fun _ => rfl) (RepMk.fr hI.2.2.1 hF ⟨n0 (by decide), n0 (by decide), n0 (by decide), n0 (by decide), n0 (by decide), n0 (by decide)⟩ (fun _ _ => n0 (by decide)) hM1), RepSt.fr hF (fun i => ⟨n0 (by decide), n0 (by decide)⟩) hSt1, ⟨k1, k2, rfl, k4, k5⟩, TrOK.fr hF (n0 (by decide)) hTr1⟩
            have loop : ∀ (b n : Nat) (M1 : Mem), n + b = nsS S → RepRoom (spS S P k n (rlS S - rowsS S P k)) P nx M1 → Wm p l e (rmd 9 1 6) s m args below meth c 4 D cA b0 0 0 (vx_MQ below (mQ D cA b0 ad (cnt ns nt) (okR (oSpread k S P nx))) (mX D cA b0 ad (cnt ns nt) (exR (oSpread k S P nx) [eIA, eUO, eIS])) args s 1 6 b0) 107 [(0, aO 0 0), (1, aI k), (3, aI n)] [] ad (cnt ns nt) M1 := by
              intro b
              induction b with
              | zero =>
                intro n M1 hn hR1
                have hc1 : M1.1 0 0 3 = (nsS S : Nat) := hR1.2.2.2.2.1.1
                have g6 := hI.1.2.2.2.2.2.1
                have hc3 : M1.1 0 0 6 = ((rlS S - rowsS S P k : Nat) : Int) := hR1.2.2.2.2.1.2.2.1
                refine w_iload_n C dX6_spread_107 rfl ?_
                refine w_aload_n C dX6_spread_108 rfl ?_
                refine g_X6_123 C dX6_spread_109 (by first | assumption | exact Nat.zero_lt_one | exact Nat.zero_lt_two | exact Nat.one_lt_two) ?_
                rw [hc1]
                refine w_icmp_ge C dX6_spread_112 (by omega) (by omega) (fun h112 => ?_) (fun h112 => ?_)
                · refine w_aload_n C dX6_spread_131 rfl ?_
                  refine g_X6_356 C dX6_spread_132 (by first | assumption | exact Nat.zero_lt_one | exact Nat.zero_lt_two | exact Nat.one_lt_two) ?_
                  rw [hc3]
                  refine w_iret C hr dX6_spread_135 rfl (okR_of (S' := spS S P k (nsS S) (rlS S - rowsS S P k)) (P' := P) (nx' := nx) (by unfold oSpread; rw [if_neg (fun z => z y1), if_neg (by omega), Int.toNat_natCast, if_neg (by rintro (q | q); omega; exact q (fitB_iff.mpr hfit))]) rfl (by rw [show nsS S = n by omega]; exact hR1)) (by decide) (by decide)
                · omega
              | succ b ih =>
                intro n M1 hn hR1
                have hc1 : M1.1 0 0 3 = (nsS S : Nat) := hR1.2.2.2.2.1.1
                have hfn : fitS S P k n := fitS_iff.mpr fun i hi => fitS_iff.mp hfit i (by omega)
                have hIn := Inv.sp (n := n) (r := rlS S - rowsS S P k) hI (by omega) hfn
                have g6 := hI.1.2.2.2.2.2.1
                refine w_iload_n C dX6_spread_107 rfl ?_
                refine w_aload_n C dX6_spread_108 rfl ?_
                refine g_X6_123 C dX6_spread_109 (by first | assumption | exact Nat.zero_lt_one | exact Nat.zero_lt_two | exact Nat.one_lt_two) ?_
                rw [hc1]
                refine w_icmp_ge C dX6_spread_112 (by omega) (by omega) (fun h112 => ?_) (fun h112 => ?_)
                · omega
                · refine w_aload_n C dX6_spread_115 rfl ?_
                  refine w_aload_n C dX6_spread_116 rfl ?_
                  refine w_iload_n C dX6_spread_117 rfl ?_
                  refine w_callV C dX6_spread_118 (c_X6_shapeNumbered hl hIn.1 hR1.2.2.2.2.1 (n : Int) (by omega)) mX6_shapeNumbered vX6_shapeNumbered lk_X6_169 (by first | assumption | exact Nat.zero_lt_one | exact Nat.zero_lt_two | exact Nat.one_lt_two) rfl rfl rfl rfl ⟨by decide, by decide, by decide, by decide⟩ (Nat.le_of_ble_eq_true rfl) (fun _ _ h => h.elim) ⟨by decide, by decide⟩ (fun r_ M_ q118 => ?_)
                  obtain ⟨rfl, rfl⟩ := q118
                  rw [if_pos (show 0 ≤ (n : Int) ∧ (n : Int) < nsS (spS S P k n (rlS S - rowsS S P k)) from ⟨by omega, by show (n : Int) < nsS S; omega⟩), Int.toNat_natCast]
                  refine w_iload_n C dX6_spread_121 rfl ?_
                  refine w_callV C dX6_spread_122 (c_X6_cutPlies hl hIn hns hR1 n (show n < nsS S by omega) k (by omega)) mX6_cutPlies vX6_cutPlies lk_X6_372 (by first | assumption | exact Nat.zero_lt_one | exact Nat.zero_lt_two | exact Nat.one_lt_two) rfl rfl rfl rfl ⟨by decide, by decide, by decide, by decide⟩ (Nat.le_of_ble_eq_true rfl) (fun _ _ h => h.elim) ⟨by decide, by decide⟩ (fun r_ M3 q122 => ?_)
                  obtain ⟨k9, rfl⟩ := q122
                  have hR3 : RepRoom (spS S P k (n + 1) (rlS S - rowsS S P k)) P nx M3 := by
                    refine RepRoom.stk (S := (spS S P k n (rlS S - rowsS S P k))) (j := n) (a := stS (spS S P k n (rlS S - rowsS S P k)) n 0 + k * perS (spS S P k n (rlS S - rowsS S P k)) P n 0) (b := stS (spS S P k n (rlS S - rowsS S P k)) n 1 + k * perS (spS S P k n (rlS S - rowsS S P k)) P n 1) hI.2.2.1 (k9.trans ?_) (fun f i q h => sp_ag h) ?_ ?_ hR1
                    · rw [eS_sp]
                      rfl
                    · rw [sp_14 (by omega), sp_14 (by omega), if_pos (by omega), if_neg (by omega)]
                      rfl
                    · rw [sp_14 (by omega), sp_14 (by omega), if_pos (by omega), if_neg (by omega)]
                      rfl
                  refine w_iinc C dX6_spread_125 rfl (by decide) ?_
                  refine w_goto C dX6_spread_128 ?_
                  exact Wm.lsub (lv' := [(0, aO 0 0), (1, aI k), (3, aI ((n + 1 : Nat) : Int))]) ⟨rfl, rfl, rfl, trivial⟩ (ih (n + 1) M3 (by omega) hR3)
            exact Wm.lsub (lv' := [(0, aO 0 0), (1, aI k), (3, aI ((0 : Nat) : Int))]) ⟨rfl, rfl, rfl, trivial⟩ (loop (nsS S) 0 _ (by omega) hR0)
          · have hfit : ¬ fitB S P k (nsS S) = true := fun q => h81 (by rw [hzi.mpr (fitB_iff.mp q)]; decide)
            exact K84 _ (Or.inr hfit)
      refine w_imul C dX6_spread_50 ?_
      refine w_aload_n C dX6_spread_51 rfl ?_
      refine g_X6_12 C dX6_spread_52 (by first | assumption | exact Nat.zero_lt_one | exact Nat.zero_lt_two | exact Nat.one_lt_two) ?_
      refine g_X6_83 C dX6_spread_55 (by first | assumption | exact Nat.zero_lt_one | exact Nat.zero_lt_two | exact Nat.one_lt_two) ?_
      rw [hCl.1.2.2.1]
      refine w_if_eq C dX6_spread_58 (by omega) (fun h58 => ?_) (fun h58 => ?_)
      · refine w_iconst C dX6_spread_65 ?_
        refine w_imul C dX6_spread_66 ?_
        refine w_istore_n C dX6_spread_67 (by decide) ?_
        refine Wm.lsub (lv' := [(0, aO 0 0), (1, aI k), (2, aI (rowsS S P k : Nat))]) ⟨rfl, rfl, congrArg some (congrArg aI ?_), trivial⟩ K68
        unfold rowsS
        rw [if_neg (by omega)]
        omega
      · refine w_iconst C dX6_spread_61 ?_
        refine w_goto C dX6_spread_62 ?_
        refine w_imul C dX6_spread_66 ?_
        refine w_istore_n C dX6_spread_67 (by decide) ?_
        refine Wm.lsub (lv' := [(0, aO 0 0), (1, aI k), (2, aI (rowsS S P k : Nat))]) ⟨rfl, rfl, congrArg some (congrArg aI ?_), trivial⟩ K68
        unfold rowsS
        rw [if_pos (by omega)]
        omega
    · refine w_throwW C tk_96_100 ts_364 dX6_spread_31 dX6_spread_34 dX6_spread_35 dX6_spread_38 dX6_spread_41 ⟨by decide, by decide, by decide, by decide⟩ (Nat.le_of_ble_eq_true rfl) (exR_of (i := 1) (by unfold oSpread; rw [if_neg (fun q => q y1), if_pos (by omega)]) rfl hR) (by decide) (by decide)
  · exact absurd y1 (fun q => h7 (by rw [b2_t q]; decide))
theorem c_X6_spread (hl : l.stackTraces = false) {S : Sg} {P : List Pc} {nx : Nat} (hI : Inv S P nx) (hns : nsS S ≤ ns) (hR : RepRoom S P nx M) (a : Int) (ha : -2147483648 ≤ a ∧ a ≤ 2147483647) : Con l b0 yX6_spread cX6_spread 4 (some .int) 9 1 6 [aO 0 0, aI a] ad (cnt ns nt) M (okR (oSpread a S P nx)) (exR (oSpread a S P nx) [eIA, eUO, eIS]) := by
  by_cases y1 : 1 ≤ a ∧ a ≤ 50
  · obtain ⟨k, rfl⟩ := Int.eq_ofNat_of_zero_le (show 0 ≤ a by omega)
    exact c_X6_spreadN hl hI hns hR k y1
  · have y2 := y1
    refine Con.of hl pl_X6 (Nat.le_of_ble_eq_true rfl) ?_
    intro D cA p e s m args below meth c C hr
    refine w_iload_n C dX6_spread_0 rfl ?_
    refine w_iconst C dX6_spread_1 ?_
    refine w_bipush (v := 50) C dX6_spread_2 rfl ?_
    refine w_callS C dX6_spread_4 (c_X6_isWithin hl a 1 50 (by omega) (by omega) (by omega)) mX6_isWithin sX6_isWithin lk_X6_48 rfl rfl ⟨by decide, by decide, by decide, by decide⟩ (Nat.le_of_ble_eq_true rfl) (fun _ _ h => h.elim) ⟨by decide, by decide⟩ (fun r_ M_ q4 => ?_)
    obtain ⟨rfl, rfl⟩ := q4
    rw [b2_f y1]
    refine w_if_ne C dX6_spread_7 (by omega) (fun h7 => ?_) (fun h7 => ?_)
    · omega
    · refine w_throwW C tk_52_56 ts_362 dX6_spread_10 dX6_spread_13 dX6_spread_14 dX6_spread_17 dX6_spread_20 ⟨by decide, by decide, by decide, by decide⟩ (Nat.le_of_ble_eq_true rfl) (exR_of (i := 0) (by unfold oSpread; rw [if_pos y1]) rfl hR) (by decide) (by decide)
end Rm
