/-! Marker: hasNoOverlap (of what lies without overlap) -/
def metK (mi : Nat) : Nat → Nat → Prop := fun k i => k = 26 ∧ i = mi
section Mk
variable {l : Launch} {b0 : Nat → Prop} {ad : Ads} {ns nt : Nat} {M : Mem}
theorem c_X1_meetsAnew (hl : l.stackTraces = false) {S : Sg} {q : Pc} {mi id : Nat} {g : Nat → Nat → Bool} (hmi : inD (cnt ns nt) 2 mi) (hid : inD (cnt ns nt) 3 id) (hq : RepPc q id M) (o1 : inD (cnt ns nt) 5 (8 * pShp q + (pTrn q + 4 * pMir q))) (o2 : inD (cnt ns nt) 31 (8 * pShp q + (pTrn q + 4 * pMir q))) (o3 : ∀ r, r < 5 → M.1 31 (8 * pShp q + (pTrn q + 4 * pMir q)) r = (bitsN (nc (dB S (pShp q)) (pTrn q) (pMir q) r) 5 : Nat)) (o4 : M.1 5 (8 * pShp q + (pTrn q + 4 * pMir q)) 3 = hgt (dB S (pShp q)) (pTrn q) (pMir q)) (h1 : (pRow q : Int) + hgt (dB S (pShp q)) (pTrn q) (pMir q) ≤ 60) (h2 : (pCol q : Int) + wid (dB S (pShp q)) (pTrn q) (pMir q) ≤ 12) (h3 : pRow q ≤ 65) (h4 : pCol q ≤ 12) (hg : ∀ u, u < 60 → M.1 26 mi u = (bitsN (g u) 12 : Nat)) (hno : ∀ u v, cv S q u v = true → g u v = false) : Con l b0 yX1_meetsAnew cX1_meetsAnew 5 (some .boolean) 2 0 0 [aO 2 mi, aO 3 id] ad (cnt ns nt) M (fun r9 M' => Fr (metK mi) M M' ∧ (∀ u, u < 60 → M'.1 26 mi u = (bitsN (fun v => g u v || cv S q u v) 12 : Nat)) ∧ r9 = some (aI 1)) noX := by
  obtain ⟨r1, r2, r3, r4, r5, r6, r7⟩ := hq
  have i26 : inD (cnt ns nt) 26 mi := hmi
  have hb := hgt_bd (dB S (pShp q)) (pTrn q) (pMir q)
  have nm : ∀ {k i : Nat}, k ≠ 26 → ¬ metK mi k i := fun h q => h q.1
  refine Con.of hl pl_X1 (Nat.le_of_ble_eq_true rfl) ?_
  intro D cA p e s m args below meth c C hr
  have loop : ∀ (b n : Nat) (M1 : Mem), n + b = 5 → Fr (metK mi) M M1 → (∀ u, u < 60 → M1.1 26 mi u = (bitsN (fun v => g u v || (decide (u < pRow q + n) && cv S q u v)) 12 : Nat)) → Wm p l e (rmd 2 0 0) s m args below meth c 5 D cA b0 0 0 (vx_MQ below (mQ D cA b0 ad (cnt ns nt) (fun r9 M' => Fr (metK mi) M M' ∧ (∀ u, u < 60 → M'.1 26 mi u = (bitsN (fun v => g u v || cv S q u v) 12 : Nat)) ∧ r9 = some (aI 1))) (mX D cA b0 ad (cnt ns nt) noX) args s 0 0 b0) 15 [(0, aO 2 mi), (1, aO 3 id), (2, aI n)] [] ad (cnt ns nt) M1 := by
    intro b
    induction b with
    | zero =>
      intro n M1 hn hF hT
      refine w_iload_n C dX1_meetsAnew_15 rfl ?_
      refine w_aload_n C dX1_meetsAnew_16 rfl ?_
      refine g_X1_136 C dX1_meetsAnew_17 (by first | assumption | exact Nat.zero_lt_one | exact Nat.zero_lt_two | exact Nat.one_lt_two) ?_
      rw [(hF 3 _ (nm (by decide))).2.1, r3]
      refine Wm.top (v' := aO 5 (8 * pShp q + (pTrn q + 4 * pMir q))) rfl ?_
      refine g_X1_107 C dX1_meetsAnew_20 (by first | assumption | exact Nat.zero_lt_one | exact Nat.zero_lt_two | exact Nat.one_lt_two) ?_
      rw [(hF 5 _ (nm (by decide))).1, o4]
      refine w_icmp_ge C dX1_meetsAnew_23 (by omega) (by omega) (fun h23 => ?_) (fun h23 => ?_)
      · refine w_iconst C dX1_meetsAnew_90 ?_
        refine w_iret C hr dX1_meetsAnew_91 (by first | exact narrow_z (b2_01 _) | exact narrow_z (by omega)) (⟨hF, fun u hu => ?_, rfl⟩) (by decide) (by decide)
        rw [hT u hu]
        refine congrArg (fun z : Nat => (z : Int)) (bitsN_cg fun v hv => ?_)
        by_cases hc : cv S q u v = true
        · have := cv_dom hc
          rw [decide_eq_true (show u < pRow q + n by omega)]
          rfl
        · rw [Bool.eq_false_iff.mpr hc, Bool.and_false]
      · omega
    | succ b ih =>
      intro n M1 hn hF hT
      refine w_iload_n C dX1_meetsAnew_15 rfl ?_
      refine w_aload_n C dX1_meetsAnew_16 rfl ?_
      refine g_X1_136 C dX1_meetsAnew_17 (by first | assumption | exact Nat.zero_lt_one | exact Nat.zero_lt_two | exact Nat.one_lt_two) ?_
      rw [(hF 3 _ (nm (by decide))).2.1, r3]
      refine Wm.top (v' := aO 5 (8 * pShp q + (pTrn q + 4 * pMir q))) rfl ?_
      refine g_X1_107 C dX1_meetsAnew_20 (by first | assumption | exact Nat.zero_lt_one | exact Nat.zero_lt_two | exact Nat.one_lt_two) ?_
      rw [(hF 5 _ (nm (by decide))).1, o4]
      refine w_icmp_ge C dX1_meetsAnew_23 (by omega) (by omega) (fun h23 => ?_) (fun h23 => ?_)
      · refine w_iconst C dX1_meetsAnew_90 ?_
        refine w_iret C hr dX1_meetsAnew_91 (by first | exact narrow_z (b2_01 _) | exact narrow_z (by omega)) (⟨hF, fun u hu => ?_, rfl⟩) (by decide) (by decide)
        rw [hT u hu]
        refine congrArg (fun z : Nat => (z : Int)) (bitsN_cg fun v hv => ?_)
        by_cases hc : cv S q u v = true
        · have := cv_dom hc
          rw [decide_eq_true (show u < pRow q + n by omega)]
          rfl
        · rw [Bool.eq_false_iff.mpr hc, Bool.and_false]
      · have p1 : 2 ^ pCol q ≤ 2 ^ 12 := Nat.pow_le_pow_right (by decide) h4
        have p2 : bitsN (nc (dB S (pShp q)) (pTrn q) (pMir q) n) 5 < 2 ^ 5 := bitsN_lt _ _
        have p3 : bitsN (nc (dB S (pShp q)) (pTrn q) (pMir q) n) 5 * 2 ^ pCol q ≤ 2 ^ 5 * 2 ^ 12 := Nat.mul_le_mul (Nat.le_of_lt p2) p1
        have eG : bitsN (fun v => g (pRow q + n) v || (decide (pRow q + n < pRow q + n) && cv S q (pRow q + n) v)) 12 = bitsN (g (pRow q + n)) 12 := bitsN_cg fun v hv => by
          rw [decide_eq_false (Nat.lt_irrefl _), Bool.false_and, Bool.or_false]
        have p4 : bitsN (g (pRow q + n)) 12 < 2 ^ 12 := bitsN_lt _ _
        have hcv : ∀ v, (bitsN (nc (dB S (pShp q)) (pTrn q) (pMir q) n) 5 * 2 ^ pCol q).testBit v = cv S q (pRow q + n) v := fun v => by rw [tb_sh, cv_row]
        have e0 : bitsN (g (pRow q + n)) 12 &&& bitsN (nc (dB S (pShp q)) (pTrn q) (pMir q) n) 5 * 2 ^ pCol q = 0 := Nat.eq_of_testBit_eq fun i => by
          rw [Nat.testBit_and, bitsN_tb, hcv, Nat.zero_testBit]
          cases hc : cv S q (pRow q + n) i with
          | false => rw [Bool.and_false]
          | true => rw [hno _ _ hc, Bool.and_false, Bool.false_and]
        have p5 : bitsN (g (pRow q + n)) 12 ||| bitsN (nc (dB S (pShp q)) (pTrn q) (pMir q) n) 5 * 2 ^ pCol q < 2 ^ 18 := Nat.or_lt_two_pow (by omega) (by omega)
        refine w_aload_n C dX1_meetsAnew_26 rfl ?_
        refine g_X1_136 C dX1_meetsAnew_27 (by first | assumption | exact Nat.zero_lt_one | exact Nat.zero_lt_two | exact Nat.one_lt_two) ?_
        rw [(hF 3 _ (nm (by decide))).2.1, r3]
        refine Wm.top (v' := aO 5 (8 * pShp q + (pTrn q + 4 * pMir q))) rfl ?_
        refine g_X1_114 C dX1_meetsAnew_30 (by first | assumption | exact Nat.zero_lt_one | exact Nat.zero_lt_two | exact Nat.one_lt_two) ?_
        refine w_iload_n C dX1_meetsAnew_33 rfl ?_
        refine w_callN C dX1_meetsAnew_34 (c_X6_entry hl IA_31 o2 n (by omega)) mX6_entry sX6_entry lk_X1_110 rfl rfl ⟨by decide, by decide, by decide, by decide⟩ (Nat.le_of_ble_eq_true rfl) (fun _ _ h => h.elim) ⟨by decide, by decide⟩ (fun r_ M_ q34 => ?_)
        obtain ⟨rfl, rfl⟩ := q34
        rw [rd_ok (by omega), (hF 31 _ (nm (by decide))).1, o3 n (by omega)]
        refine w_aload_n C dX1_meetsAnew_37 rfl ?_
        refine g_X1_146 C dX1_meetsAnew_38 (by first | assumption | exact Nat.zero_lt_one | exact Nat.zero_lt_two | exact Nat.one_lt_two) ?_
        rw [(hF 3 _ (nm (by decide))).1, r6]
        refine w_ishl (x := bitsN (nc (dB S (pShp q)) (pTrn q) (pMir q) n) 5) C dX1_meetsAnew_41 (by omega) ?_
        refine w_istore_n C dX1_meetsAnew_42 (by decide) ?_
        refine w_aload_n C dX1_meetsAnew_43 rfl ?_
        refine g_X1_37 C dX1_meetsAnew_44 (by first | assumption | exact Nat.zero_lt_one | exact Nat.zero_lt_two | exact Nat.one_lt_two) ?_
        refine w_aload_n C dX1_meetsAnew_47 rfl ?_
        refine g_X1_143 C dX1_meetsAnew_48 (by first | assumption | exact Nat.zero_lt_one | exact Nat.zero_lt_two | exact Nat.one_lt_two) ?_
        rw [(hF 3 _ (nm (by decide))).1, r5]
        refine w_iload_n C dX1_meetsAnew_51 rfl ?_
        refine w_iadd C dX1_meetsAnew_52 ?_
        refine w_callN C dX1_meetsAnew_53 (c_X6_entry hl IA_26 i26 ((pRow q : Int) + n) (by omega)) mX6_entry sX6_entry lk_X1_110 rfl rfl ⟨by decide, by decide, by decide, by decide⟩ (Nat.le_of_ble_eq_true rfl) (fun _ _ h => h.elim) ⟨by decide, by decide⟩ (fun r_ M_ q53 => ?_)
        obtain ⟨rfl, rfl⟩ := q53
        rw [show (pRow q : Int) + n = ((pRow q + n : Nat) : Int) by omega, rd_ok (by omega), hT _ (by omega), eG]
        refine w_istore C dX1_meetsAnew_56 (by decide) ?_
        refine w_iload C dX1_meetsAnew_58 rfl ?_
        refine w_iload_n C dX1_meetsAnew_60 rfl ?_
        refine w_iand C dX1_meetsAnew_61 (by omega) (by omega) ?_
        rw [e0]
        refine w_if_eq C dX1_meetsAnew_62 (by omega) (fun h62 => ?_) (fun h62 => ?_)
        · refine w_aload_n C dX1_meetsAnew_67 rfl ?_
          refine g_X1_37 C dX1_meetsAnew_68 (by first | assumption | exact Nat.zero_lt_one | exact Nat.zero_lt_two | exact Nat.one_lt_two) ?_
          refine w_aload_n C dX1_meetsAnew_71 rfl ?_
          refine g_X1_143 C dX1_meetsAnew_72 (by first | assumption | exact Nat.zero_lt_one | exact Nat.zero_lt_two | exact Nat.one_lt_two) ?_
          rw [(hF 3 _ (nm (by decide))).1, r5]
          refine w_iload_n C dX1_meetsAnew_75 rfl ?_
          refine w_iadd C dX1_meetsAnew_76 ?_
          refine w_iload C dX1_meetsAnew_77 rfl ?_
          refine w_iload_n C dX1_meetsAnew_79 rfl ?_
          refine w_ior C dX1_meetsAnew_80 (by omega) (by omega) ?_
          refine w_callN C dX1_meetsAnew_81 (c_X6_store hl IA_26 i26 ((pRow q : Int) + n) _ (by omega)) mX6_store sX6_store lk_X1_160 rfl rfl ⟨by decide, by decide, by decide, by decide⟩ (Nat.le_of_ble_eq_true rfl) (fun _ _ h => h.elim) ⟨by decide, by decide⟩ (fun r_ M_ q81 => ?_)
          obtain ⟨q81, rfl⟩ := q81
          rw [show (pRow q : Int) + n = ((pRow q + n : Nat) : Int) by omega, wr_ok (by omega)] at q81
          subst q81
          refine w_iinc C dX1_meetsAnew_84 rfl (by decide) ?_
          refine w_goto C dX1_meetsAnew_87 ?_
          refine Wm.lsub (lv' := [(0, aO 2 mi), (1, aO 3 id), (2, aI ((n + 1 : Nat) : Int))]) ⟨rfl, rfl, rfl, trivial⟩ (ih (n + 1) _ (by omega) (hF.uI ⟨rfl, rfl⟩) (fun u hu => ?_))
          rw [uI_get]
          by_cases hu2 : u = pRow q + n
          · subst hu2
            rw [if_pos ⟨rfl, rfl, rfl⟩]
            refine congrArg (fun z : Nat => (z : Int)) (bitsN_of fun v => ?_)
            rw [Nat.testBit_or, bitsN_tb, hcv, decide_eq_true (show pRow q + n < pRow q + (n + 1) by omega), Bool.true_and]
            by_cases hv : v < 12
            · rw [decide_eq_true hv, Bool.true_and, Bool.true_and]
            · have : cv S q (pRow q + n) v = false := Bool.eq_false_iff.mpr fun hc => by
                have := cv_dom hc
                omega
              rw [this, decide_eq_false hv]
              rfl
          · rw [if_neg (fun h => hu2 h.2.2), hT u hu]
            refine congrArg (fun z : Nat => (z : Int)) (bitsN_cg fun v hv => ?_)
            rw [decide_eq_decide.mpr (show u < pRow q + n ↔ u < pRow q + (n + 1) by omega)]
        · omega
  refine w_aload_n C dX1_meetsAnew_0 rfl ?_
  refine w_ifnull C dX1_meetsAnew_1 (fun h1 => ?_) (fun h1 => ?_)
  · cases h1
  · refine w_aload_n C dX1_meetsAnew_4 rfl ?_
    refine g_X1_136 C dX1_meetsAnew_5 (by first | assumption | exact Nat.zero_lt_one | exact Nat.zero_lt_two | exact Nat.one_lt_two) ?_
    rw [r3]
    refine Wm.top (v' := aO 5 (8 * pShp q + (pTrn q + 4 * pMir q))) rfl ?_
    refine w_ifnonnull C dX1_meetsAnew_8 (fun h8 => ?_) (fun h8 => ?_)
    · refine w_iconst C dX1_meetsAnew_13 ?_
      refine w_istore_n C dX1_meetsAnew_14 (by decide) ?_
      refine Wm.lsub (lv' := [(0, aO 2 mi), (1, aO 3 id), (2, aI ((0 : Nat) : Int))]) ⟨rfl, rfl, rfl, trivial⟩ (loop 5 0 M rfl Fr.rf (fun u hu => ?_))
      rw [hg u hu]
      refine congrArg (fun z : Nat => (z : Int)) (bitsN_cg fun v hv => ?_)
      cases hc : cv S q u v with
      | false => rw [Bool.and_false, Bool.or_false]
      | true =>
        have := cv_dom hc
        rw [decide_eq_false (show ¬ u < pRow q + 0 by omega), Bool.false_and, Bool.or_false]
    · cases h8
theorem c_X1_hasNoOverlap (hl : l.stackTraces = false) {S : Sg} {P : List Pc} {nx mi : Nat} {f : Nat → Nat} (hG : GInv S) (hmi : inD (cnt ns nt) 2 mi) (hP : P.length ≤ 40) (hM : RepMF f mi S P nx M) (hI : PInv S P nx) (hSh : RepSh S M) (hns : nsS S ≤ ns) : Con l b0 yX1_hasNoOverlap cX1_hasNoOverlap 2 (some .boolean) 3 0 0 [aO 2 mi] ad (cnt ns nt) M (fun r9 M' => Fr (metK mi) M M' ∧ r9 = some (aI 1)) noX := by
  have i26 : inD (cnt ns nt) 26 mi := hmi
  have hcs := cols12 hG
  have nm : ∀ {k i : Nat}, k ≠ 26 → ¬ metK mi k i := fun h q => h q.1
  refine Con.of hl pl_X1 (Nat.le_of_ble_eq_true rfl) ?_
  intro D cA p e s m args below meth c C hr
  have loop : ∀ (b n : Nat) (A B : List Pc) (M1 : Mem), P = A ++ B → A.length = n → B.length = b → Fr (metK mi) M M1 → (∀ u, u < 60 → M1.1 26 mi u = (bitsN (fun v => A.any fun p => cv S p u v) 12 : Nat)) → Wm p l e (rmd 3 0 0) s m args below meth c 2 D cA b0 0 0 (vx_MQ below (mQ D cA b0 ad (cnt ns nt) (fun r9 M' => Fr (metK mi) M M' ∧ r9 = some (aI 1))) (mX D cA b0 ad (cnt ns nt) noX) args s 0 0 b0) 10 [(0, aO 2 mi), (1, aI n)] [] ad (cnt ns nt) M1 := by
    intro b
    induction b with
    | zero =>
      intro n A B M1 hAB hA hB hF hT
      have hM1 : RepMF f mi S P nx M1 := RepMF.fr hP hF ⟨nm (by decide), nm (by decide), nm (by decide), nm (by decide), nm (by decide), nm (by decide)⟩ (fun _ _ => nm (by decide)) hM
      have a1 := hM1.1
      have hlen : P.length = n := by rw [hAB, List.length_append, hA, hB]; rfl
      refine w_iload_n C dX1_hasNoOverlap_10 rfl ?_
      refine w_aload_n C dX1_hasNoOverlap_11 rfl ?_
      refine g_X1_40 C dX1_hasNoOverlap_12 (by first | assumption | exact Nat.zero_lt_one | exact Nat.zero_lt_two | exact Nat.one_lt_two) ?_
      refine w_icmp_ge C dX1_hasNoOverlap_15 (by omega) (by omega) (fun h15 => ?_) (fun h15 => ?_)
      · refine w_iconst C dX1_hasNoOverlap_38 ?_
        refine w_iret C hr dX1_hasNoOverlap_39 (by first | exact narrow_z (b2_01 _) | exact narrow_z (by omega)) (⟨hF, rfl⟩) (by decide) (by decide)
      · omega
    | succ b ih =>
      intro n A B M1 hAB hA hB hF hT
      have hM1 : RepMF f mi S P nx M1 := RepMF.fr hP hF ⟨nm (by decide), nm (by decide), nm (by decide), nm (by decide), nm (by decide), nm (by decide)⟩ (fun _ _ => nm (by decide)) hM
      have hSh1 : RepSh S M1 := RepSh.fr hF (fun i => ⟨nm (by decide), nm (by decide), nm (by decide), nm (by decide), nm (by decide)⟩) hSh
      have hM1' := hM1
      obtain ⟨a1, a2, ⟨b1, b2', b3⟩, a4⟩ := hM1'
      obtain ⟨q, B', rfl⟩ := lst_cons hB
      have hlen : P.length = n + (b + 1) := by rw [hAB, List.length_append, hA, hB]
      have hq : P[n]? = some q := by rw [hAB, ← hA]; simp
      obtain ⟨-, hqm, hqr, i3⟩ := pc_at hM1 hmi hP hq
      obtain ⟨i1, i2, i4, i5, i6, i7, i8, i9⟩ := hI.1 q hqm
      obtain ⟨o1, o2, o3, o4, o5, o6⟩ := ou_at (nt := nt) hSh1 i1 hns i4 i5 i2
      obtain ⟨k0, hk0, hd0⟩ := (hSh1 (pShp q) i1).1.2.2.2.2.2.2.2.mp i2
      obtain ⟨x1, x2, x3, x4⟩ := hgt_cell (d := dB S (pShp q)) (t := pTrn q) (mi := pMir q) ⟨k0, hk0, hd0⟩
      obtain ⟨y1, y2, y3, y4⟩ := wid_cell (d := dB S (pShp q)) (t := pTrn q) (mi := pMir q) ⟨k0, hk0, hd0⟩
      refine w_iload_n C dX1_hasNoOverlap_10 rfl ?_
      refine w_aload_n C dX1_hasNoOverlap_11 rfl ?_
      refine g_X1_40 C dX1_hasNoOverlap_12 (by first | assumption | exact Nat.zero_lt_one | exact Nat.zero_lt_two | exact Nat.one_lt_two) ?_
      refine w_icmp_ge C dX1_hasNoOverlap_15 (by omega) (by omega) (fun h15 => ?_) (fun h15 => ?_)
      · omega
      · refine w_aload_n C dX1_hasNoOverlap_18 rfl ?_
        refine w_aload_n C dX1_hasNoOverlap_19 rfl ?_
        refine w_iload_n C dX1_hasNoOverlap_20 rfl ?_
        refine w_callV C dX1_hasNoOverlap_21 (c_X1_pieceIn hl hmi a1 hP b1 n (by omega)) mX1_pieceIn vX1_pieceIn lk_X1_44 (by first | assumption | exact Nat.zero_lt_one | exact Nat.zero_lt_two | exact Nat.one_lt_two) rfl rfl rfl rfl ⟨by decide, by decide, by decide, by decide⟩ (Nat.le_of_ble_eq_true rfl) (fun _ _ h => h.elim) ⟨by decide, by decide⟩ (fun r_ M_ q21 => ?_)
        obtain ⟨rfl, rfl⟩ := q21
        rw [if_pos (by omega), Int.toNat_natCast]
        refine Wm.top (v' := aO 3 (40 * mi + f n)) rfl ?_
        have hdis : ∀ u v, cv S q u v = true → (A.any fun p => cv S p u v) = false := fun u v hc => by
          rw [List.any_eq_false]
          intro p hp h9
          have hpw := hI.2.1
          rw [hAB, List.pairwise_append] at hpw
          exact (hpw.2.2 p hp q (List.mem_cons_self)).2 u v ⟨h9, hc⟩
        refine w_callV C dX1_hasNoOverlap_24 (c_X1_meetsAnew hl hmi i3 hqr o1 o2 o3 o4 i8 (by omega) (by omega) (by omega) hT hdis) mX1_meetsAnew vX1_meetsAnew lk_X1_187 (by first | assumption | exact Nat.zero_lt_one | exact Nat.zero_lt_two | exact Nat.one_lt_two) rfl rfl rfl rfl ⟨by decide, by decide, by decide, by decide⟩ (Nat.le_of_ble_eq_true rfl) (fun _ _ h => h.elim) ⟨by decide, by decide⟩ (fun r_ M2 q24 => ?_)
        obtain ⟨k1, k2, rfl⟩ := q24
        refine w_if_ne C dX1_hasNoOverlap_27 (by omega) (fun h27 => ?_) (fun h27 => ?_)
        · refine w_iinc C dX1_hasNoOverlap_32 rfl (by decide) ?_
          refine w_goto C dX1_hasNoOverlap_35 ?_
          refine Wm.lsub (lv' := [(0, aO 2 mi), (1, aI ((n + 1 : Nat) : Int))]) ⟨rfl, rfl, trivial⟩ (ih (n + 1) (A ++ [q]) B' M2 (by rw [hAB]; simp) (by simp [hA]) (by simpa using hB) (hF.tr k1) (fun u hu => ?_))
          rw [k2 u hu]
          refine congrArg (fun z : Nat => (z : Int)) (bitsN_cg fun v hv => ?_)
          simp
        · omega
  refine w_aload_n C dX1_hasNoOverlap_0 rfl ?_
  refine g_X1_37 C dX1_hasNoOverlap_1 (by first | assumption | exact Nat.zero_lt_one | exact Nat.zero_lt_two | exact Nat.one_lt_two) ?_
  refine w_iconst C dX1_hasNoOverlap_4 ?_
  refine w_callS C dX1_hasNoOverlap_5 (c_J7_fill hl IA_26 i26 0) mJ7_fill_53178 sJ7_fill_53178 lk_X1_22 rfl rfl ⟨by decide, by decide, by decide, by decide⟩ (Nat.le_of_ble_eq_true rfl) (fun _ _ h => h.elim) ⟨by decide, by decide⟩ (fun r_ M1 q5 => ?_)
  obtain ⟨f1, e1, v1, -, rfl⟩ := q5
  refine w_iconst C dX1_hasNoOverlap_8 ?_
  refine w_istore_n C dX1_hasNoOverlap_9 (by decide) ?_
  refine Wm.lsub (lv' := [(0, aO 2 mi), (1, aI ((0 : Nat) : Int))]) ⟨rfl, rfl, trivial⟩ (loop P.length 0 [] P M1 rfl rfl rfl (f1.mono fun k i z => z) (fun u hu => ?_))
  rw [v1 u hu]
  rfl
end Mk
