-- MODEL
/-! the model: plies -/
def itS (S : Sg) (P : List Pc) (p i : Nat) : Nat := p * perS S P (i / 2) (i % 2)
def muB (S : Sg) (P : List Pc) (p : Nat) : Nat → Bool
  | 0 => false
  | k + 1 => muB S P p k || decide (9999 < stS S (k / 2) (k % 2) + itS S P p k)
theorem muB_fit (S : Sg) (P : List Pc) (p n : Nat) : muB S P p (2 * n) = !fitB S P p n := by
  induction n with
  | zero => rfl
  | succ n ih =>
    rw [show 2 * (n + 1) = 2 * n + 1 + 1 by omega]
    unfold muB muB fitB itS
    rw [ih, show 2 * n / 2 = n by omega, show 2 * n % 2 = 0 by omega, show (2 * n + 1) / 2 = n by omega, show (2 * n + 1) % 2 = 1 by omega]
    have e : ∀ x : Nat, decide (9999 < x) = !decide (x ≤ 9999) := fun x => by
      by_cases h : x ≤ 9999
      · rw [decide_eq_true h, decide_eq_false (by omega)]
        rfl
      · rw [decide_eq_false h, decide_eq_true (by omega)]
        rfl
    rw [e, e]
    cases fitB S P p n <;> cases decide (stS S n 0 + p * perS S P n 0 ≤ 9999) <;> cases decide (stS S n 1 + p * perS S P n 1 ≤ 9999) <;> rfl
theorem perS_app (S : Sg) (A : List Pc) (q : Pc) (j w : Nat) (hw : w ≤ 1) (hq : pMir q ≤ 1) (hf : fdS S = 1 → pMir q = 0) : perS S (A ++ [q]) j w = perS S A j w + (if pShp q = j then (if fdS S = 1 then (if paS S j = 1 then 1 else if w = 1 then 0 else 2) else if pMir q = w then 1 else 0) else 0) := by
  have hc : ∀ v, cntS (A ++ [q]) j v = cntS A j v + (if pShp q = j ∧ pMir q = v then 1 else 0) := fun v => by
    unfold cntS
    rw [List.countP_append]
    congr 1
    by_cases h : pShp q = j ∧ pMir q = v
    · rw [if_pos h]
      simp [List.countP_cons, h.1, h.2]
    · rw [if_neg h, List.countP_cons, if_neg]
      · rfl
      · intro z
        rw [Bool.and_eq_true, beq_iff_eq, beq_iff_eq] at z
        exact h z
  unfold perS
  by_cases h1 : fdS S = 1
  · have hm := hf h1
    rw [if_pos h1, if_pos h1, if_pos h1]
    by_cases h2 : paS S j = 1
    · rw [if_pos h2, if_pos h2, if_pos h2, hc]
      congr 1
      by_cases h3 : pShp q = j
      · rw [if_pos ⟨h3, hm⟩, if_pos h3]
      · rw [if_neg (fun z => h3 z.1), if_neg h3]
    · rw [if_neg h2, if_neg h2, if_neg h2]
      by_cases h4 : w = 1
      · rw [if_pos h4, if_pos h4, if_pos h4]
        split <;> rfl
      · rw [if_neg h4, if_neg h4, if_neg h4, hc]
        by_cases h3 : pShp q = j
        · rw [if_pos ⟨h3, hm⟩, if_pos h3]
          omega
        · rw [if_neg (fun z => h3 z.1), if_neg h3]
          omega
  · rw [if_neg h1, if_neg h1, if_neg h1, hc]
    congr 1
    by_cases h3 : pShp q = j
    · rw [if_pos h3]
      by_cases h4 : pMir q = w
      · rw [if_pos ⟨h3, h4⟩, if_pos h4]
      · rw [if_neg (fun z => h4 z.2), if_neg h4]
    · rw [if_neg (fun z => h3 z.1), if_neg h3]
theorem perS_nil (S : Sg) (j w : Nat) : perS S [] j w = 0 := by
  unfold perS cntS
  (repeat' split) <;> rfl
section Mo
variable {l : Launch} {b0 : Nat → Prop} {ad : Ads} {M : Mem}
theorem c_X7_givenBy (hl : l.stackTraces = false) {S : Sg} {P : List Pc} {nx : Nat} (hI : Inv S P nx) (e17 : M.1 40 0 17 = P.length) (e3 : M.1 40 0 3 = fdS S) (j : Nat) (hj : j < 8) (e42 : M.1 42 0 j = paS S j) (hMM : RepMM S P M) (w : Nat) (hw : w ≤ 1) : Con l b0 yX7_givenBy cX7_givenBy 7 (some .int) 1 0 0 [aO 40 0, aI j, aI w] ad cntM M (fun r M' => M' = M ∧ r = some (aI (perS S P j w : Nat))) noX := by
  have hP := hI.2.2.1
  have hfd := hI.1.2.2.1
  have hpa := (hI.1.2.2.2.2.2.2.2.2.2.1 j).1
  refine Con.of hl pl_X7 (Nat.le_of_ble_eq_true rfl) ?_
  intro D cA p e s m args below meth c C hr
  have loop : ∀ (b n : Nat) (A B : List Pc), P = A ++ B → A.length = n → B.length = b → Wm p l e (rmd 1 0 0) s m args below meth c 7 D cA b0 0 0 (vx_MQ below (mQ D cA b0 ad cntM (fun r M' => M' = M ∧ r = some (aI (perS S P j w : Nat)))) (mX D cA b0 ad cntM noX) args s 0 0 b0) 5 [(0, aO 40 0), (1, aI j), (2, aI w), (3, aI (perS S A j w : Nat)), (4, aI n)] [] ad cntM M := by
    intro b
    induction b with
    | zero =>
      intro n A B hAB hA hB
      have hlen : P.length = n := by rw [hAB, List.length_append, hA, hB]; rfl
      refine w_iload C dX7_givenBy_5 rfl ?_
      refine w_aload_n C dX7_givenBy_7 rfl ?_
      refine g_X7_112 C dX7_givenBy_8 (by first | assumption | exact Nat.zero_lt_one | exact Nat.zero_lt_two | exact Nat.one_lt_two) ?_
      refine w_icmp_ge C dX7_givenBy_11 (by omega) (by omega) (fun h11 => ?_) (fun h11 => ?_)
      · refine w_iload_n C dX7_givenBy_102 rfl ?_
        refine w_iret C hr dX7_givenBy_103 rfl (⟨rfl, by rw [hAB, List.length_eq_zero_iff.mp hB, List.append_nil]⟩) (by decide) (by decide)
      · omega
    | succ b ih =>
      intro n A B hAB hA hB
      obtain ⟨q, B', rfl⟩ := lst_cons hB
      have hlen : P.length = n + (b + 1) := by rw [hAB, List.length_append, hA, hB]
      have hq : P[n]? = some q := by rw [hAB, ← hA]; simp
      obtain ⟨t1, t2, t3, t4, t5, t6⟩ := hMM.1 n q hq
      obtain ⟨i1, i2, i3, i4, i5, i6, i7, i8⟩ := hI.2.1.1 q (List.mem_of_getElem? hq)
      have hns := hI.1.2.2.2.2.2.1
      have hap := perS_app S A q j w hw i4 i5
      have K : Wm p l e (rmd 1 0 0) s m args below meth c 7 D cA b0 0 0 (vx_MQ below (mQ D cA b0 ad cntM (fun r M' => M' = M ∧ r = some (aI (perS S P j w : Nat)))) (mX D cA b0 ad cntM noX) args s 0 0 b0) 95 [(0, aO 40 0), (1, aI j), (2, aI w), (4, aI n)] [aI (perS S (A ++ [q]) j w : Nat)] ad cntM M := by
        refine w_istore_n C dX7_givenBy_95 (by decide) ?_
        refine w_iinc C dX7_givenBy_96 rfl (by decide) ?_
        refine w_goto C dX7_givenBy_99 ?_
        exact Wm.lsub (lv' := [(0, aO 40 0), (1, aI j), (2, aI w), (3, aI (perS S (A ++ [q]) j w : Nat)), (4, aI ((n + 1 : Nat) : Int))]) ⟨rfl, rfl, rfl, rfl, rfl, trivial⟩ (ih (n + 1) (A ++ [q]) B' (by rw [hAB]; simp) (by simp [hA]) (by simpa using hB))
      refine w_iload C dX7_givenBy_5 rfl ?_
      refine w_aload_n C dX7_givenBy_7 rfl ?_
      refine g_X7_112 C dX7_givenBy_8 (by first | assumption | exact Nat.zero_lt_one | exact Nat.zero_lt_two | exact Nat.one_lt_two) ?_
      refine w_icmp_ge C dX7_givenBy_11 (by omega) (by omega) (fun h11 => ?_) (fun h11 => ?_)
      · omega
      · refine w_aload_n C dX7_givenBy_14 rfl ?_
        refine g_X7_49 C dX7_givenBy_15 (by first | assumption | exact Nat.zero_lt_one | exact Nat.zero_lt_two | exact Nat.one_lt_two) ?_
        refine w_iload C dX7_givenBy_18 rfl ?_
        refine w_ialdN (j := n) C dX7_givenBy_20 (by first | assumption | exact Nat.zero_lt_one | exact Nat.zero_lt_two | exact Nat.one_lt_two) IA_54 (by omega) (by omega) ?_
        refine w_iload_n C dX7_givenBy_21 rfl ?_
        refine w_icmp_ne C dX7_givenBy_22 (by omega) (by omega) (fun h22 => ?_) (fun h22 => ?_)
        · refine w_iconst C dX7_givenBy_29 ?_
          refine w_istore C dX7_givenBy_30 (by decide) ?_
          refine w_aload_n C dX7_givenBy_32 rfl ?_
          refine g_X7_118 C dX7_givenBy_33 (by first | assumption | exact Nat.zero_lt_one | exact Nat.zero_lt_two | exact Nat.one_lt_two) ?_
          refine w_if_ne C dX7_givenBy_36 (by omega) (fun h36 => ?_) (fun h36 => ?_)
          · refine w_aload_n C dX7_givenBy_58 rfl ?_
            refine g_X7_21 C dX7_givenBy_59 (by first | assumption | exact Nat.zero_lt_one | exact Nat.zero_lt_two | exact Nat.one_lt_two) ?_
            refine w_iload_n C dX7_givenBy_62 rfl ?_
            refine w_zaldN (j := j) C dX7_givenBy_63 (by first | assumption | exact Nat.zero_lt_one | exact Nat.zero_lt_two | exact Nat.one_lt_two) ZA_42 (by omega) (by omega) ?_
            refine w_if_eq C dX7_givenBy_64 (by omega) (fun h64 => ?_) (fun h64 => ?_)
            · refine w_iload_n C dX7_givenBy_71 rfl ?_
              refine w_if_eq C dX7_givenBy_72 (by omega) (fun h72 => ?_) (fun h72 => ?_)
              · refine w_iconst C dX7_givenBy_79 ?_
                refine w_istore C dX7_givenBy_80 (by decide) ?_
                refine w_iload_n C dX7_givenBy_82 rfl ?_
                refine w_iload C dX7_givenBy_83 rfl ?_
                refine w_if_eq_y C dX7_givenBy_85 (by omega) (by decide) ?_
                refine w_iconst C dX7_givenBy_93 ?_
                refine w_iadd C dX7_givenBy_94 ?_
                refine Wm.lsub (lv' := [(0, aO 40 0), (1, aI j), (2, aI w), (4, aI n)]) ⟨rfl, rfl, rfl, rfl, trivial⟩ (Wm.top (congrArg aI ?_) K)
                rw [hap]
                (repeat' split) <;> omega
              · refine w_iconst C dX7_givenBy_75 ?_
                refine w_goto C dX7_givenBy_76 ?_
                refine w_istore C dX7_givenBy_80 (by decide) ?_
                refine w_iload_n C dX7_givenBy_82 rfl ?_
                refine w_iload C dX7_givenBy_83 rfl ?_
                refine w_if_eq_y C dX7_givenBy_85 (by omega) (by decide) ?_
                refine w_iconst C dX7_givenBy_93 ?_
                refine w_iadd C dX7_givenBy_94 ?_
                refine Wm.lsub (lv' := [(0, aO 40 0), (1, aI j), (2, aI w), (4, aI n)]) ⟨rfl, rfl, rfl, rfl, trivial⟩ (Wm.top (congrArg aI ?_) K)
                rw [hap]
                (repeat' split) <;> omega
            · refine w_iconst C dX7_givenBy_67 ?_
              refine w_goto C dX7_givenBy_68 ?_
              refine w_istore C dX7_givenBy_80 (by decide) ?_
              refine w_iload_n C dX7_givenBy_82 rfl ?_
              refine w_iload C dX7_givenBy_83 rfl ?_
              refine w_if_eq_y C dX7_givenBy_85 (by omega) (by decide) ?_
              refine w_iconst C dX7_givenBy_93 ?_
              refine w_iadd C dX7_givenBy_94 ?_
              refine Wm.lsub (lv' := [(0, aO 40 0), (1, aI j), (2, aI w), (4, aI n)]) ⟨rfl, rfl, rfl, rfl, trivial⟩ (Wm.top (congrArg aI ?_) K)
              rw [hap]
              (repeat' split) <;> omega
          · refine w_aload_n C dX7_givenBy_39 rfl ?_
            refine g_X7_61 C dX7_givenBy_40 (by first | assumption | exact Nat.zero_lt_one | exact Nat.zero_lt_two | exact Nat.one_lt_two) ?_
            refine w_iload C dX7_givenBy_43 rfl ?_
            refine w_zaldN (j := n) C dX7_givenBy_45 (by first | assumption | exact Nat.zero_lt_one | exact Nat.zero_lt_two | exact Nat.one_lt_two) ZA_45 (by omega) (by omega) ?_
            refine w_iload_n C dX7_givenBy_46 rfl ?_
            refine w_icmp_ne C dX7_givenBy_47 (by omega) (by omega) (fun h47 => ?_) (fun h47 => ?_)
            · refine w_iconst C dX7_givenBy_54 ?_
              refine w_goto C dX7_givenBy_55 ?_
              refine w_istore C dX7_givenBy_80 (by decide) ?_
              refine w_iload_n C dX7_givenBy_82 rfl ?_
              refine w_iload C dX7_givenBy_83 rfl ?_
              refine w_if_eq_y C dX7_givenBy_85 (by omega) (by decide) ?_
              refine w_iconst C dX7_givenBy_93 ?_
              refine w_iadd C dX7_givenBy_94 ?_
              refine Wm.lsub (lv' := [(0, aO 40 0), (1, aI j), (2, aI w), (4, aI n)]) ⟨rfl, rfl, rfl, rfl, trivial⟩ (Wm.top (congrArg aI ?_) K)
              rw [hap]
              (repeat' split) <;> omega
            · refine w_iconst C dX7_givenBy_50 ?_
              refine w_goto C dX7_givenBy_51 ?_
              refine w_istore C dX7_givenBy_80 (by decide) ?_
              refine w_iload_n C dX7_givenBy_82 rfl ?_
              refine w_iload C dX7_givenBy_83 rfl ?_
              refine w_if_eq_y C dX7_givenBy_85 (by omega) (by decide) ?_
              refine w_iconst C dX7_givenBy_93 ?_
              refine w_iadd C dX7_givenBy_94 ?_
              refine Wm.lsub (lv' := [(0, aO 40 0), (1, aI j), (2, aI w), (4, aI n)]) ⟨rfl, rfl, rfl, rfl, trivial⟩ (Wm.top (congrArg aI ?_) K)
              rw [hap]
              (repeat' split) <;> omega
        · refine w_iconst C dX7_givenBy_25 ?_
          refine w_goto C dX7_givenBy_26 ?_
          refine w_istore C dX7_givenBy_30 (by decide) ?_
          refine w_aload_n C dX7_givenBy_32 rfl ?_
          refine g_X7_118 C dX7_givenBy_33 (by first | assumption | exact Nat.zero_lt_one | exact Nat.zero_lt_two | exact Nat.one_lt_two) ?_
          refine w_if_ne C dX7_givenBy_36 (by omega) (fun h36 => ?_) (fun h36 => ?_)
          · refine w_aload_n C dX7_givenBy_58 rfl ?_
            refine g_X7_21 C dX7_givenBy_59 (by first | assumption | exact Nat.zero_lt_one | exact Nat.zero_lt_two | exact Nat.one_lt_two) ?_
            refine w_iload_n C dX7_givenBy_62 rfl ?_
            refine w_zaldN (j := j) C dX7_givenBy_63 (by first | assumption | exact Nat.zero_lt_one | exact Nat.zero_lt_two | exact Nat.one_lt_two) ZA_42 (by omega) (by omega) ?_
            refine w_if_eq C dX7_givenBy_64 (by omega) (fun h64 => ?_) (fun h64 => ?_)
            · refine w_iload_n C dX7_givenBy_71 rfl ?_
              refine w_if_eq C dX7_givenBy_72 (by omega) (fun h72 => ?_) (fun h72 => ?_)
              · refine w_iconst C dX7_givenBy_79 ?_
                refine w_istore C dX7_givenBy_80 (by decide) ?_
                refine w_iload_n C dX7_givenBy_82 rfl ?_
                refine w_iload C dX7_givenBy_83 rfl ?_
                refine w_if_eq_n C dX7_givenBy_85 (by omega) (by decide) ?_
                refine w_iload C dX7_givenBy_88 rfl ?_
                refine w_goto C dX7_givenBy_90 ?_
                refine w_iadd C dX7_givenBy_94 ?_
                refine Wm.lsub (lv' := [(0, aO 40 0), (1, aI j), (2, aI w), (4, aI n)]) ⟨rfl, rfl, rfl, rfl, trivial⟩ (Wm.top (congrArg aI ?_) K)
                rw [hap]
                (repeat' split) <;> omega
              · refine w_iconst C dX7_givenBy_75 ?_
                refine w_goto C dX7_givenBy_76 ?_
                refine w_istore C dX7_givenBy_80 (by decide) ?_
                refine w_iload_n C dX7_givenBy_82 rfl ?_
                refine w_iload C dX7_givenBy_83 rfl ?_
                refine w_if_eq_n C dX7_givenBy_85 (by omega) (by decide) ?_
                refine w_iload C dX7_givenBy_88 rfl ?_
                refine w_goto C dX7_givenBy_90 ?_
                refine w_iadd C dX7_givenBy_94 ?_
                refine Wm.lsub (lv' := [(0, aO 40 0), (1, aI j), (2, aI w), (4, aI n)]) ⟨rfl, rfl, rfl, rfl, trivial⟩ (Wm.top (congrArg aI ?_) K)
                rw [hap]
                (repeat' split) <;> omega
            · refine w_iconst C dX7_givenBy_67 ?_
              refine w_goto C dX7_givenBy_68 ?_
              refine w_istore C dX7_givenBy_80 (by decide) ?_
              refine w_iload_n C dX7_givenBy_82 rfl ?_
              refine w_iload C dX7_givenBy_83 rfl ?_
              refine w_if_eq_n C dX7_givenBy_85 (by omega) (by decide) ?_
              refine w_iload C dX7_givenBy_88 rfl ?_
              refine w_goto C dX7_givenBy_90 ?_
              refine w_iadd C dX7_givenBy_94 ?_
              refine Wm.lsub (lv' := [(0, aO 40 0), (1, aI j), (2, aI w), (4, aI n)]) ⟨rfl, rfl, rfl, rfl, trivial⟩ (Wm.top (congrArg aI ?_) K)
              rw [hap]
              (repeat' split) <;> omega
          · refine w_aload_n C dX7_givenBy_39 rfl ?_
            refine g_X7_61 C dX7_givenBy_40 (by first | assumption | exact Nat.zero_lt_one | exact Nat.zero_lt_two | exact Nat.one_lt_two) ?_
            refine w_iload C dX7_givenBy_43 rfl ?_
            refine w_zaldN (j := n) C dX7_givenBy_45 (by first | assumption | exact Nat.zero_lt_one | exact Nat.zero_lt_two | exact Nat.one_lt_two) ZA_45 (by omega) (by omega) ?_
            refine w_iload_n C dX7_givenBy_46 rfl ?_
            refine w_icmp_ne C dX7_givenBy_47 (by omega) (by omega) (fun h47 => ?_) (fun h47 => ?_)
            · refine w_iconst C dX7_givenBy_54 ?_
              refine w_goto C dX7_givenBy_55 ?_
              refine w_istore C dX7_givenBy_80 (by decide) ?_
              refine w_iload_n C dX7_givenBy_82 rfl ?_
              refine w_iload C dX7_givenBy_83 rfl ?_
              refine w_if_eq_n C dX7_givenBy_85 (by omega) (by decide) ?_
              refine w_iload C dX7_givenBy_88 rfl ?_
              refine w_goto C dX7_givenBy_90 ?_
              refine w_iadd C dX7_givenBy_94 ?_
              refine Wm.lsub (lv' := [(0, aO 40 0), (1, aI j), (2, aI w), (4, aI n)]) ⟨rfl, rfl, rfl, rfl, trivial⟩ (Wm.top (congrArg aI ?_) K)
              rw [hap]
              (repeat' split) <;> omega
            · refine w_iconst C dX7_givenBy_50 ?_
              refine w_goto C dX7_givenBy_51 ?_
              refine w_istore C dX7_givenBy_80 (by decide) ?_
              refine w_iload_n C dX7_givenBy_82 rfl ?_
              refine w_iload C dX7_givenBy_83 rfl ?_
              refine w_if_eq_n C dX7_givenBy_85 (by omega) (by decide) ?_
              refine w_iload C dX7_givenBy_88 rfl ?_
              refine w_goto C dX7_givenBy_90 ?_
              refine w_iadd C dX7_givenBy_94 ?_
              refine Wm.lsub (lv' := [(0, aO 40 0), (1, aI j), (2, aI w), (4, aI n)]) ⟨rfl, rfl, rfl, rfl, trivial⟩ (Wm.top (congrArg aI ?_) K)
              rw [hap]
              (repeat' split) <;> omega
  refine w_iconst C dX7_givenBy_0 ?_
  refine w_istore_n C dX7_givenBy_1 (by decide) ?_
  refine w_iconst C dX7_givenBy_2 ?_
  refine w_istore C dX7_givenBy_3 (by decide) ?_
  exact Wm.lsub (lv' := [(0, aO 40 0), (1, aI j), (2, aI w), (3, aI (perS S [] j w : Nat)), (4, aI ((0 : Nat) : Int))]) ⟨rfl, rfl, rfl, by rw [perS_nil]; rfl, rfl, trivial⟩ (loop P.length 0 [] P rfl rfl rfl)
theorem c_X7_takenFromRoll (hl : l.stackTraces = false) {S : Sg} {P : List Pc} {nx : Nat} (hI : Inv S P nx) (hnx : nx < 1000000) (hR : RepMo S P nx M) (p9 : Nat) (hp : p9 ≤ 50) : Con l b0 yX7_takenFromRoll cX7_takenFromRoll 2 (some .int) 2 0 0 [aO 40 0, aI p9] ad cntM M (fun r M' => M' = M ∧ r = some (aI (rowsS S P p9 : Nat))) noX := by
  obtain ⟨r1, r2, r3, r4, r5, r6⟩ := hR.rg hI.1
  have e3 := hR.1.2.2.1
  refine Con.of hl pl_X7 (Nat.le_of_ble_eq_true rfl) ?_
  intro D cA p e s m args below meth c C hr
  refine w_iload_n C dX7_takenFromRoll_0 rfl ?_
  refine w_aload_n C dX7_takenFromRoll_1 rfl ?_
  refine w_callV C dX7_takenFromRoll_2 (c_X7_longest hl hI hnx hR) mX7_longest vX7_longest lk_X7_218 (by first | assumption | exact Nat.zero_lt_one | exact Nat.zero_lt_two | exact Nat.one_lt_two) rfl rfl rfl rfl ⟨by decide, by decide, by decide, by decide⟩ (Nat.le_of_ble_eq_true rfl) (fun _ _ h => h.elim) ⟨by decide, by decide⟩ (fun r_ M_ q2 => ?_)
  obtain ⟨rfl, rfl⟩ := q2
  refine w_imul C dX7_takenFromRoll_5 ?_
  refine w_aload_n C dX7_takenFromRoll_6 rfl ?_
  refine g_X7_118 C dX7_takenFromRoll_7 (by first | assumption | exact Nat.zero_lt_one | exact Nat.zero_lt_two | exact Nat.one_lt_two) ?_
  refine w_if_eq C dX7_takenFromRoll_10 (by omega) (fun h10 => ?_) (fun h10 => ?_)
  · refine w_iconst C dX7_takenFromRoll_17 ?_
    refine w_imul C dX7_takenFromRoll_18 ?_
    refine w_iret C hr dX7_takenFromRoll_19 rfl (⟨rfl, congrArg (fun z : Int => some (aI z)) (by unfold rowsS; first | (rw [if_pos (by omega)]; omega) | (rw [if_neg (by omega)]; omega))⟩) (by decide) (by decide)
  · refine w_iconst C dX7_takenFromRoll_13 ?_
    refine w_goto C dX7_takenFromRoll_14 ?_
    refine w_imul C dX7_takenFromRoll_18 ?_
    refine w_iret C hr dX7_takenFromRoll_19 rfl (⟨rfl, congrArg (fun z : Int => some (aI z)) (by unfold rowsS; first | (rw [if_pos (by omega)]; omega) | (rw [if_neg (by omega)]; omega))⟩) (by decide) (by decide)
theorem c_X7_isMuch (hl : l.stackTraces = false) {S : Sg} {P : List Pc} {nx : Nat} (hI : Inv S P nx) (hR : RepMo S P nx M) (p9 : Nat) (hp : p9 ≤ 50) : Con l b0 yX7_isMuch cX7_isMuch 4 (some .boolean) 2 0 0 [aO 40 0, aI p9] ad cntM M (fun r M' => M' = M ∧ r = some (aI (b2 (muB S P p9 (2 * nsS S) = true)))) noX := by
  have e7 := hR.1.2.2.2.2.2.1
  have g6 := hI.1.2.2.2.2.2.1
  refine Con.of hl pl_X7 (Nat.le_of_ble_eq_true rfl) ?_
  intro D cA p e s m args below meth c C hr
  have loop : ∀ (b n : Nat), n + b = 2 * nsS S → Wm p l e (rmd 2 0 0) s m args below meth c 4 D cA b0 0 0 (vx_MQ below (mQ D cA b0 ad cntM (fun r M' => M' = M ∧ r = some (aI (b2 (muB S P p9 (2 * nsS S) = true))))) (mX D cA b0 ad cntM noX) args s 0 0 b0) 4 [(0, aO 40 0), (1, aI p9), (2, aI (b2 (muB S P p9 n = true))), (3, aI n)] [] ad cntM M := by
    intro b
    induction b with
    | zero =>
      intro n hn
      refine w_iload_n C dX7_isMuch_4 rfl ?_
      refine w_iconst C dX7_isMuch_5 ?_
      refine w_aload_n C dX7_isMuch_6 rfl ?_
      refine g_X7_143 C dX7_isMuch_7 (by first | assumption | exact Nat.zero_lt_one | exact Nat.zero_lt_two | exact Nat.one_lt_two) ?_
      refine w_imul C dX7_isMuch_10 ?_
      refine w_icmp_ge C dX7_isMuch_11 (by omega) (by omega) (fun h11 => ?_) (fun h11 => ?_)
      · refine w_iload_n C dX7_isMuch_64 rfl ?_
        refine w_iret C hr dX7_isMuch_65 (by first | exact narrow_z (b2_01 _) | exact narrow_z (by omega)) (⟨rfl, by rw [show 2 * nsS S = n by omega]⟩) (by decide) (by decide)
      · omega
    | succ b ih =>
      intro n hn
      have b1 := b2_01 (muB S P p9 n = true)
      have hst : M.1 52 0 n = stS S (n / 2) (n % 2) := by
        have h := hR.2.2.1 (n / 2) (by omega)
        rcases (show n % 2 = 0 ∨ n % 2 = 1 by omega) with q | q
        · have := h.2.2.2.2.2.2.2.1
          rw [show 2 * (n / 2) = n by omega] at this
          rw [q]; exact this
        · have := h.2.2.2.2.2.2.2.2
          rw [show 2 * (n / 2) + 1 = n by omega] at this
          rw [q]; exact this
      have hsb : stS S (n / 2) (n % 2) ≤ 9999 := by
        have h := (hI.1.2.2.2.2.2.2.2.2.2.1 (n / 2)).2.2.2.2.2.2
        rcases (show n % 2 = 0 ∨ n % 2 = 1 by omega) with q | q
        · rw [q]; exact h.1
        · rw [q]; exact h.2.1
      have hper := perS_le (S := S) hI.2.2.1 (n / 2) (n % 2)
      have hmul : p9 * perS S P (n / 2) (n % 2) ≤ 50 * 80 := Nat.mul_le_mul hp hper
      have hmu : muB S P p9 (n + 1) = (muB S P p9 n || decide (9999 < stS S (n / 2) (n % 2) + p9 * perS S P (n / 2) (n % 2))) := rfl
      have K57 : Wm p l e (rmd 2 0 0) s m args below meth c 4 D cA b0 0 0 (vx_MQ below (mQ D cA b0 ad cntM (fun r M' => M' = M ∧ r = some (aI (b2 (muB S P p9 (2 * nsS S) = true))))) (mX D cA b0 ad cntM noX) args s 0 0 b0) 57 [(0, aO 40 0), (1, aI p9), (3, aI n)] [aI (b2 (muB S P p9 (n + 1) = true))] ad cntM M := by
        refine w_istore_n C dX7_isMuch_57 (by decide) ?_
        refine w_iinc C dX7_isMuch_58 rfl (by decide) ?_
        refine w_goto C dX7_isMuch_61 ?_
        exact Wm.lsub (lv' := [(0, aO 40 0), (1, aI p9), (2, aI (b2 (muB S P p9 (n + 1) = true))), (3, aI ((n + 1 : Nat) : Int))]) ⟨rfl, rfl, rfl, rfl, trivial⟩ (ih (n + 1) (by omega))
      have K41 : ∀ z : Nat, z = n % 2 → ¬ b2 (muB S P p9 n = true) ≠ 0 → Wm p l e (rmd 2 0 0) s m args below meth c 4 D cA b0 0 0 (vx_MQ below (mQ D cA b0 ad cntM (fun r M' => M' = M ∧ r = some (aI (b2 (muB S P p9 (2 * nsS S) = true))))) (mX D cA b0 ad cntM noX) args s 0 0 b0) 41 [(0, aO 40 0), (1, aI p9), (3, aI n)] [aI z, aI (n / 2 : Nat), aO 40 0, aI p9, aI (stS S (n / 2) (n % 2))] ad cntM M := by
        intro z hz h15
        subst hz
        refine w_callV C dX7_isMuch_41 (c_X7_givenBy hl hI hR.1.2.2.2.2.2.2.1 hR.1.2.2.1 (n / 2) (by omega) (hR.2.2.1 (n / 2) (by omega)).2.1 hR.2.2.2.2.1 (n % 2) (by omega)) mX7_givenBy vX7_givenBy lk_X7_258 (by first | assumption | exact Nat.zero_lt_one | exact Nat.zero_lt_two | exact Nat.one_lt_two) rfl rfl rfl rfl ⟨by decide, by decide, by decide, by decide⟩ (Nat.le_of_ble_eq_true rfl) (fun _ _ h => h.elim) ⟨by decide, by decide⟩ (fun r_ M_ q41 => ?_)
        obtain ⟨rfl, rfl⟩ := q41
        refine w_imul C dX7_isMuch_44 ?_
        refine w_iadd C dX7_isMuch_45 ?_
        refine w_sipush (v := 9999) C dX7_isMuch_46 rfl ?_
        refine w_icmp_le C dX7_isMuch_49 (by omega) (by omega) (fun h49 => ?_) (fun h49 => ?_)
        · refine w_iconst C dX7_isMuch_56 ?_
          refine Wm.lsub (lv' := [(0, aO 40 0), (1, aI p9), (3, aI n)]) ⟨rfl, rfl, rfl, trivial⟩ (Wm.top (congrArg aI ?_) K57)
          rw [hmu]
          first | (rw [b2_t (by rw [b2_n0 h15]; rfl)]) | (rw [b2_t (by rw [decide_eq_true (by omega)]; simp)]) | (rw [b2_f (by rw [decide_eq_false (by omega), Bool.or_false]; exact b2_is0 (by omega))])
        · refine w_iconst C dX7_isMuch_52 ?_
          refine w_goto C dX7_isMuch_53 ?_
          refine Wm.lsub (lv' := [(0, aO 40 0), (1, aI p9), (3, aI n)]) ⟨rfl, rfl, rfl, trivial⟩ (Wm.top (congrArg aI ?_) K57)
          rw [hmu]
          first | (rw [b2_t (by rw [b2_n0 h15]; rfl)]) | (rw [b2_t (by rw [decide_eq_true (by omega)]; simp)]) | (rw [b2_f (by rw [decide_eq_false (by omega), Bool.or_false]; exact b2_is0 (by omega))])
      refine w_iload_n C dX7_isMuch_4 rfl ?_
      refine w_iconst C dX7_isMuch_5 ?_
      refine w_aload_n C dX7_isMuch_6 rfl ?_
      refine g_X7_143 C dX7_isMuch_7 (by first | assumption | exact Nat.zero_lt_one | exact Nat.zero_lt_two | exact Nat.one_lt_two) ?_
      refine w_imul C dX7_isMuch_10 ?_
      refine w_icmp_ge C dX7_isMuch_11 (by omega) (by omega) (fun h11 => ?_) (fun h11 => ?_)
      · omega
      · refine w_iload_n C dX7_isMuch_14 rfl ?_
        refine w_if_ne C dX7_isMuch_15 (by omega) (fun h15 => ?_) (fun h15 => ?_)
        · refine w_iconst C dX7_isMuch_52 ?_
          refine w_goto C dX7_isMuch_53 ?_
          refine Wm.lsub (lv' := [(0, aO 40 0), (1, aI p9), (3, aI n)]) ⟨rfl, rfl, rfl, trivial⟩ (Wm.top (congrArg aI ?_) K57)
          rw [hmu]
          rw [b2_t (by rw [b2_n0 h15]; rfl)]
        · refine w_aload_n C dX7_isMuch_18 rfl ?_
          refine g_X7_43 C dX7_isMuch_19 (by first | assumption | exact Nat.zero_lt_one | exact Nat.zero_lt_two | exact Nat.one_lt_two) ?_
          refine w_iload_n C dX7_isMuch_22 rfl ?_
          refine w_ialdN (j := n) C dX7_isMuch_23 (by first | assumption | exact Nat.zero_lt_one | exact Nat.zero_lt_two | exact Nat.one_lt_two) IA_52 (by omega) (by omega) ?_
          rw [hst]
          refine w_iload_n C dX7_isMuch_24 rfl ?_
          refine w_aload_n C dX7_isMuch_25 rfl ?_
          refine w_iload_n C dX7_isMuch_26 rfl ?_
          refine w_iconst C dX7_isMuch_27 ?_
          refine w_idiv C dX7_isMuch_28 (by omega) (by omega) ?_
          refine w_iload_n C dX7_isMuch_29 rfl ?_
          refine w_iconst C dX7_isMuch_30 ?_
          refine w_irem C dX7_isMuch_31 (by omega) (by omega) ?_
          refine w_iconst C dX7_isMuch_32 ?_
          refine w_icmp_ne C dX7_isMuch_33 (by omega) (by omega) (fun h33 => ?_) (fun h33 => ?_)
          · refine w_iconst C dX7_isMuch_40 ?_
            refine Wm.lsub (lv' := [(0, aO 40 0), (1, aI p9), (3, aI n)]) ⟨rfl, rfl, rfl, trivial⟩ ?_
            first | exact K41 1 (by omega) h15 | exact K41 0 (by omega) h15
          · refine w_iconst C dX7_isMuch_36 ?_
            refine w_goto C dX7_isMuch_37 ?_
            refine Wm.lsub (lv' := [(0, aO 40 0), (1, aI p9), (3, aI n)]) ⟨rfl, rfl, rfl, trivial⟩ ?_
            first | exact K41 1 (by omega) h15 | exact K41 0 (by omega) h15
  refine w_iconst C dX7_isMuch_0 ?_
  refine w_istore_n C dX7_isMuch_1 (by decide) ?_
  refine w_iconst C dX7_isMuch_2 ?_
  refine w_istore_n C dX7_isMuch_3 (by decide) ?_
  exact Wm.lsub (lv' := [(0, aO 40 0), (1, aI p9), (2, aI (b2 (muB S P p9 0 = true))), (3, aI ((0 : Nat) : Int))]) ⟨rfl, rfl, rfl, rfl, trivial⟩ (loop (2 * nsS S) 0 (by omega))
end Mo
