-- MODEL
/-! the model: the least length; what has lain is laid again -/
section Mo
variable {l : Launch} {b0 : Nat → Prop} {ad : Ads} {M : Mem}
def Kp (P : List Pc) (n : Nat) (M : Mem) : Prop := ∀ i p, i < n → P[i]? = some p → M.1 66 0 i = pNum p ∧ M.1 67 0 i = pShp p ∧ M.1 68 0 i = pRow p ∧ M.1 69 0 i = pCol p ∧ M.1 70 0 i = pTrn p ∧ M.1 46 0 i = pMir p
theorem Kp.step {P : List Pc} {i : Nat} {M : Mem} {p : Pc} (h : Kp P i M) (hp : P[i]? = some p) : Kp P (i + 1) (uI (uI (uI (uI (uI (uI M 66 0 i (pNum p)) 67 0 i (pShp p)) 68 0 i (pRow p)) 69 0 i (pCol p)) 70 0 i (pTrn p)) 46 0 i (pMir p)) := by
  intro i' p' hi' hp'
  by_cases e : i' = i
  · subst e
    obtain rfl := Option.some.inj (hp.symm.trans hp')
    refine ⟨?_, ?_, ?_, ?_, ?_, ?_⟩ <;> simp [uI_get]
  · obtain ⟨a1, a2, a3, a4, a5, a6⟩ := h i' p' (by omega) hp'
    refine ⟨?_, ?_, ?_, ?_, ?_, ?_⟩ <;> simp [uI_get, e, a1, a2, a3, a4, a5, a6]
theorem Kp.fr {P : List Pc} {n : Nat} {M M' : Mem} (h : Kp P n M) (hF : ∀ k, k = 46 ∨ 65 ≤ k → ∀ i, M'.1 k 0 i = M.1 k 0 i) : Kp P n M' := by
  intro i p hi hp
  obtain ⟨a1, a2, a3, a4, a5, a6⟩ := h i p hi hp
  exact ⟨(hF 66 (by omega) i).trans a1, (hF 67 (by omega) i).trans a2, (hF 68 (by omega) i).trans a3, (hF 69 (by omega) i).trans a4, (hF 70 (by omega) i).trans a5, (hF 46 (by omega) i).trans a6⟩
theorem RepMo.k46 {S : Sg} {P : List Pc} {nx i : Nat} {v : Int} {M : Mem} (h : RepMo S P nx M) : RepMo S P nx (uI M 46 0 i v) := h
theorem RepMo.n18 {S : Sg} {P : List Pc} {nx q : Nat} {M : Mem} (h : RepMo S P nx M) : RepMo S P q (uI M 40 0 18 (q : Int)) := by
  obtain ⟨⟨a1, a2, a3, a4, a5, a6, a7, a8, a9, a10, a11⟩, b1, b2, b3, b4, b5, b6⟩ := h
  exact ⟨⟨a1, a2, a3, a4, a5, a6, a7, rfl, a9, a10, a11⟩, b1, b2, b3, b4, b5, b6⟩
theorem PInv.take {S : Sg} {P : List Pc} {nx i : Nat} {p : Pc} (h : PInv S P nx) (hp : P[i]? = some p) : PInv S (P.take i ++ [p]) (pNum p + 1) := by
  have e : P.take (i + 1) = P.take i ++ [p] := by
    rw [List.take_add_one, hp]
    rfl
  obtain ⟨h1, h2, h3⟩ := h
  have hm : ∀ q ∈ P.take i ++ [p], q ∈ P := fun q hq => by
    rw [← e] at hq
    exact List.mem_of_mem_take hq
  have hpw : (P.take i ++ [p]).Pairwise (fun p q => pNum p < pNum q ∧ ∀ r c, ¬ (cv S p r c = true ∧ cv S q r c = true)) := by
    rw [← e]
    exact h2.sublist (List.take_sublist _ _)
  refine ⟨fun q hq => ?_, hpw, fun q hq q' hq' => h3 q (hm q hq) q' (hm q' hq')⟩
  obtain ⟨a1, a2, a3, a4, a5, a6, a7⟩ := h1 q (hm q hq)
  refine ⟨a1, a2, a3, a4, a5, ?_, a7⟩
  rcases List.mem_append.mp hq with g | g
  · have := ((List.pairwise_append.mp hpw).2.2 q g p List.mem_cons_self).1
    omega
  · rw [List.mem_singleton.mp g]
    omega
theorem c_X7_leastLength (hl : l.stackTraces = false) {S : Sg} {P : List Pc} {nx : Nat} (hI : Inv S P nx) (hC : InvC S) (hnx : nx < 1000000) (hR : RepMo S P nx M) {qv : Nat → Nat} {N : Nat} (hN : N ≤ 4) (hE : QE S qv N M) (hfull : nMk N (2 ^ N - 1) = N) : Con l b0 yX7_leastLength cX7_leastLength 5 (some .int) 16 0 0 [aO 40 0] ad cntM M (fun r M' => RepMo S P nx M' ∧ r = some (aI (minN S N (wMk qv N (2 ^ N - 1)) [] : Nat))) noX := by
  have hl40 := hI.2.2.1
  have h2N : 2 ^ N ≤ 16 := Nat.le_trans (Nat.pow_le_pow_right (by decide) hN) (by decide)
  have h2N1 : 1 ≤ 2 ^ N := Nat.one_le_two_pow
  have hm61 : minN S N (wMk qv N (2 ^ N - 1)) [] ≤ 61 := minN_le61
  have hns8 := hI.1.2.2.2.2.2.1
  refine Con.of hl pl_X7 (Nat.le_of_ble_eq_true rfl) ?_
  intro D cA p e s m args below meth c C hr
  have L2 : ∀ (d i : Nat) (M1 : Mem) (q : Nat), i + d = P.length → RepMo S (P.take i) q M1 → Kp P P.length M1 → M1.1 40 0 48 = (minN S N (wMk qv N (2 ^ N - 1)) [] : Nat) → Wm p l e (rmd 16 0 0) s m args below meth c 5 D cA b0 0 0 (vx_MQ below (mQ D cA b0 ad cntM (fun r M' => RepMo S P nx M' ∧ r = some (aI (minN S N (wMk qv N (2 ^ N - 1)) [] : Nat)))) (mX D cA b0 ad cntM noX) args s 0 0 b0) 123 [(0, aO 40 0), (1, aI P.length), (2, aI nx), (3, aI i)] [] ad cntM M1 := by
    intro d
    induction d with
    | zero =>
      intro i M1 q hi hR1 hK h48
      obtain rfl : i = P.length := by omega
      rw [List.take_length] at hR1
      refine w_iload_n C dX7_leastLength_123 rfl ?_
      refine w_iload_n C dX7_leastLength_124 rfl ?_
      refine w_icmp_ge C dX7_leastLength_125 (by omega) (by omega) (fun h125 => ?_) (fun h125 => ?_)
      · refine w_aload_n C dX7_leastLength_202 rfl ?_
        refine w_iload_n C dX7_leastLength_203 rfl ?_
        refine p_X7_115 C dX7_leastLength_204 (by first | assumption | exact Nat.zero_lt_one | exact Nat.zero_lt_two | exact Nat.one_lt_two) ?_
        refine w_aload_n C dX7_leastLength_207 rfl ?_
        refine g_X7_239 C dX7_leastLength_208 (by first | assumption | exact Nat.zero_lt_one | exact Nat.zero_lt_two | exact Nat.one_lt_two) ?_
        refine Wm.top (v' := aI (minN S N (wMk qv N (2 ^ N - 1)) [] : Nat)) (congrArg aI (by rw [uI_ne (by omega)]; exact h48)) ?_
        refine w_iret C hr dX7_leastLength_211 rfl (⟨hR1.n18, rfl⟩) (by decide) (by decide)
      · omega
    | succ d ih =>
      intro i M1 q hi hR1 hK h48
      obtain ⟨p9, hp9⟩ : ∃ p9, P[i]? = some p9 := ⟨P[i], List.getElem?_eq_getElem (by omega)⟩
      obtain ⟨k1, k2, k3, k4, k5, k6⟩ := hK i p9 (by omega) hp9
      obtain ⟨b1, b2, b3, b4, b5, b6, b7, b8⟩ := hI.2.1.1 p9 (List.mem_of_getElem? hp9)
      have hPt := hI.2.1.take hp9
      have hlt : (P.take i).length = i := by rw [List.length_take]; omega
      refine w_iload_n C dX7_leastLength_123 rfl ?_
      refine w_iload_n C dX7_leastLength_124 rfl ?_
      refine w_icmp_ge C dX7_leastLength_125 (by omega) (by omega) (fun h125 => ?_) (fun h125 => ?_)
      · omega
      · refine w_aload_n C dX7_leastLength_128 rfl ?_
        refine w_aload_n C dX7_leastLength_129 rfl ?_
        refine g_X7_88 C dX7_leastLength_130 (by first | assumption | exact Nat.zero_lt_one | exact Nat.zero_lt_two | exact Nat.one_lt_two) ?_
        refine w_iload_n C dX7_leastLength_133 rfl ?_
        refine w_ialdN (j := i) C dX7_leastLength_134 Nat.zero_lt_one IA_66 rfl (by omega) ?_
        rw [k1]
        refine p_X7_115 C dX7_leastLength_135 (by first | assumption | exact Nat.zero_lt_one | exact Nat.zero_lt_two | exact Nat.one_lt_two) ?_
        refine w_aload_n C dX7_leastLength_138 rfl ?_
        refine w_aload_n C dX7_leastLength_139 rfl ?_
        refine g_X7_91 C dX7_leastLength_140 (by first | assumption | exact Nat.zero_lt_one | exact Nat.zero_lt_two | exact Nat.one_lt_two) ?_
        refine w_iload_n C dX7_leastLength_143 rfl ?_
        refine w_ialdN (j := i) C dX7_leastLength_144 Nat.zero_lt_one IA_67 rfl (by omega) ?_
        refine Wm.top (v' := aI (pShp p9 : Nat)) (congrArg aI (by rw [uI_ne (by omega)]; exact k2)) ?_
        refine w_aload_n C dX7_leastLength_145 rfl ?_
        refine g_X7_100 C dX7_leastLength_146 (by first | assumption | exact Nat.zero_lt_one | exact Nat.zero_lt_two | exact Nat.one_lt_two) ?_
        refine w_iload_n C dX7_leastLength_149 rfl ?_
        refine w_ialdN (j := i) C dX7_leastLength_150 Nat.zero_lt_one IA_70 rfl (by omega) ?_
        refine Wm.top (v' := aI (pTrn p9 : Nat)) (congrArg aI (by rw [uI_ne (by omega)]; exact k5)) ?_
        refine w_aload_n C dX7_leastLength_151 rfl ?_
        refine g_X7_103 C dX7_leastLength_152 (by first | assumption | exact Nat.zero_lt_one | exact Nat.zero_lt_two | exact Nat.one_lt_two) ?_
        refine w_iload_n C dX7_leastLength_155 rfl ?_
        refine w_zaldN (j := i) C dX7_leastLength_156 Nat.zero_lt_one ZA_46 rfl (by omega) ?_
        refine Wm.top (v' := aI (pMir p9 : Nat)) (congrArg aI (by rw [uI_ne (by omega)]; exact k6)) ?_
        have hR2 : RepMo S (P.take i) (pNum p9) (uI M1 40 0 18 (pNum p9)) := hR1.n18
        refine w_callV C dX7_leastLength_157 (c_X7_turns hl hI.1 hR2 (pShp p9) (by omega) (pTrn p9) (pMir p9) b3 b4) mX7_turns vX7_turns lk_X7_175 (by first | assumption | exact Nat.zero_lt_one | exact Nat.zero_lt_two | exact Nat.one_lt_two) rfl rfl rfl rfl ⟨by first | decide | (simp only [rmd]; omega), by first | decide | (simp only [rmd]; omega), by first | decide | (simp only [rmd]; omega), by first | decide | (simp only [rmd]; omega)⟩ (Nat.le_of_ble_eq_true rfl) (fun _ _ h => h.elim) ⟨by decide, by decide⟩ (fun r_ M2 q157 => ?_)
        obtain ⟨t1, t2, rfl⟩ := q157
        have hR3 : RepMo S (P.take i) (pNum p9) M2 := hR2.fr ⟨fun s a b => ?_, by rw [t1.2.2], fun k a b j => t1.2.1 k (by omega) (by omega) (by omega) j⟩
        · have hkk : ∀ k, k = 46 ∨ 65 ≤ k → ∀ j, M2.1 k 0 j = M1.1 k 0 j := fun k hk j => by rw [t1.2.1 k (by omega) (by omega) (by omega) j, uI_ne (by omega)]
          have hK3 := hK.fr hkk
          obtain ⟨k1, k2, k3, k4, k5, k6⟩ := hK3 i p9 (by omega) hp9
          refine w_aload_n C dX7_leastLength_160 rfl ?_
          refine w_aload_n C dX7_leastLength_161 rfl ?_
          refine g_X7_91 C dX7_leastLength_162 (by first | assumption | exact Nat.zero_lt_one | exact Nat.zero_lt_two | exact Nat.one_lt_two) ?_
          refine w_iload_n C dX7_leastLength_165 rfl ?_
          refine w_ialdN (j := i) C dX7_leastLength_166 Nat.zero_lt_one IA_67 rfl (by omega) ?_
          rw [k2]
          refine w_aload_n C dX7_leastLength_167 rfl ?_
          refine g_X7_100 C dX7_leastLength_168 (by first | assumption | exact Nat.zero_lt_one | exact Nat.zero_lt_two | exact Nat.one_lt_two) ?_
          refine w_iload_n C dX7_leastLength_171 rfl ?_
          refine w_ialdN (j := i) C dX7_leastLength_172 Nat.zero_lt_one IA_70 rfl (by omega) ?_
          rw [k5]
          refine w_aload_n C dX7_leastLength_173 rfl ?_
          refine g_X7_94 C dX7_leastLength_174 (by first | assumption | exact Nat.zero_lt_one | exact Nat.zero_lt_two | exact Nat.one_lt_two) ?_
          refine w_iload_n C dX7_leastLength_177 rfl ?_
          refine w_ialdN (j := i) C dX7_leastLength_178 Nat.zero_lt_one IA_68 rfl (by omega) ?_
          rw [k3]
          refine w_aload_n C dX7_leastLength_179 rfl ?_
          refine g_X7_97 C dX7_leastLength_180 (by first | assumption | exact Nat.zero_lt_one | exact Nat.zero_lt_two | exact Nat.one_lt_two) ?_
          refine w_iload_n C dX7_leastLength_183 rfl ?_
          refine w_ialdN (j := i) C dX7_leastLength_184 Nat.zero_lt_one IA_69 rfl (by omega) ?_
          rw [k4]
          refine w_aload_n C dX7_leastLength_185 rfl ?_
          refine g_X7_103 C dX7_leastLength_186 (by first | assumption | exact Nat.zero_lt_one | exact Nat.zero_lt_two | exact Nat.one_lt_two) ?_
          refine w_iload_n C dX7_leastLength_189 rfl ?_
          refine w_zaldN (j := i) C dX7_leastLength_190 Nat.zero_lt_one ZA_46 rfl (by omega) ?_
          rw [k6]
          refine w_callV C dX7_leastLength_191 (c_X7_putsG hl hI.1 (by omega) hR3 (pShp p9) b1 (pTrn p9) (pMir p9) b3 b4 (pRow p9) (pCol p9) hPt t2) mX7_puts vX7_puts lk_X7_194 (by first | assumption | exact Nat.zero_lt_one | exact Nat.zero_lt_two | exact Nat.one_lt_two) rfl rfl rfl rfl ⟨by first | decide | (simp only [rmd]; omega), by first | decide | (simp only [rmd]; omega), by first | decide | (simp only [rmd]; omega), by first | decide | (simp only [rmd]; omega)⟩ (Nat.le_of_ble_eq_true rfl) (fun _ _ h => h.elim) ⟨by decide, by decide⟩ (fun r_ M4 q191 => ?_)
          obtain ⟨w1, w2, rfl⟩ := q191
          have e1 : P.take i ++ [(pNum p9, pShp p9, pTrn p9, pRow p9, pCol p9, pMir p9)] = P.take (i + 1) := by
            rw [List.take_add_one, hp9]
            rfl
          rw [e1] at w1
          refine w_istore C dX7_leastLength_194 (by decide) ?_
          refine w_iinc C dX7_leastLength_196 rfl (by decide) ?_
          refine w_goto C dX7_leastLength_199 ?_
          refine Wm.lsub (lv' := [(0, aO 40 0), (1, aI P.length), (2, aI nx), (3, aI ((i + 1 : Nat) : Int))]) ⟨rfl, rfl, rfl, rfl, trivial⟩ (ih (i + 1) M4 _ (by omega) w1 (hK3.fr (fun k hk j => w2.2.1 k (by omega) (by omega) j)) ?_)
          rw [w2.1 48 (by omega) (by omega), t1.1 48 (by omega) (by omega), uI_ne (by omega), h48]
        · by_cases e33 : s = 33 ∨ s = 36
          · omega
          · exact t1.1 s (by omega) (by omega)
  have L1 : ∀ (d i : Nat) (M1 : Mem), i + d = P.length → RepMo S P nx M1 → QE S qv N M1 → Kp P i M1 → Wm p l e (rmd 16 0 0) s m args below meth c 5 D cA b0 0 0 (vx_MQ below (mQ D cA b0 ad cntM (fun r M' => RepMo S P nx M' ∧ r = some (aI (minN S N (wMk qv N (2 ^ N - 1)) [] : Nat)))) (mX D cA b0 ad cntM noX) args s 0 0 b0) 12 [(0, aO 40 0), (1, aI P.length), (2, aI nx), (3, aI i)] [] ad cntM M1 := by
    intro d
    induction d with
    | zero =>
      intro i M1 hi hR1 hE1 hK
      obtain rfl : i = P.length := by omega
      refine w_iload_n C dX7_leastLength_12 rfl ?_
      refine w_iload_n C dX7_leastLength_13 rfl ?_
      refine w_icmp_ge C dX7_leastLength_14 (by omega) (by omega) (fun h14 => ?_) (fun h14 => ?_)
      · refine w_aload_n C dX7_leastLength_95 rfl ?_
        refine w_callV C dX7_leastLength_96 (c_X7_empties hl hR1) mX7_empties vX7_empties lk_X7_106 (by first | assumption | exact Nat.zero_lt_one | exact Nat.zero_lt_two | exact Nat.one_lt_two) rfl rfl rfl rfl ⟨by first | decide | (simp only [rmd]; omega), by first | decide | (simp only [rmd]; omega), by first | decide | (simp only [rmd]; omega), by first | decide | (simp only [rmd]; omega)⟩ (Nat.le_of_ble_eq_true rfl) (fun _ _ h => h.elim) ⟨by decide, by decide⟩ (fun r_ M2 q96 => ?_)
        obtain ⟨a1, a2, a3, rfl⟩ := q96
        have hE2 : QE S qv N M2 := ⟨(a2 41 (by omega) (by omega)).trans hE1.1, fun t ht => ⟨(a3 65 (by omega) (by omega) t).trans (hE1.2 t ht).1, (hE1.2 t ht).2⟩⟩
        have hK2 : Kp P P.length M2 := hK.fr (fun k hk j => a3 k (by omega) (by omega) j)
        refine w_aload_n C dX7_leastLength_99 rfl ?_
        refine w_bipush (v := 61) C dX7_leastLength_100 rfl ?_
        refine p_X7_239 C dX7_leastLength_102 (by first | assumption | exact Nat.zero_lt_one | exact Nat.zero_lt_two | exact Nat.one_lt_two) ?_
        refine w_aload_n C dX7_leastLength_105 rfl ?_
        refine w_iconst C dX7_leastLength_106 ?_
        refine w_aload_n C dX7_leastLength_107 rfl ?_
        refine g_X7_236 C dX7_leastLength_108 (by first | assumption | exact Nat.zero_lt_one | exact Nat.zero_lt_two | exact Nat.one_lt_two) ?_
        refine Wm.top (v' := aI (N : Nat)) (congrArg aI (by rw [uI_ne (by omega)]; exact hE2.1)) ?_
        refine w_ishl C dX7_leastLength_111 (by omega) ?_
        refine w_iconst C dX7_leastLength_112 ?_
        refine w_isub C dX7_leastLength_113 ?_
        refine Wm.top (v' := aI (2 ^ N - 1 : Nat)) (congrArg aI (by rw [Nat.one_mul]; omega)) ?_
        have hR3 : RepMo S [] 0 (uI M2 40 0 48 61) := a1.fr (FrM.rf.uI (Or.inl ⟨rfl, Or.inr (by omega)⟩))
        have hT3 : TF M2 (uI M2 40 0 48 61) := ⟨fun k hk j => uI_ne (by omega), uI_ne (by omega)⟩
        refine w_callV C dX7_leastLength_114 (c_X7_tries hl N (uI M2 40 0 48 61) qv N (2 ^ N - 1) 61 [] 0 ⟨hI.1, PInv.nil, Nat.zero_le _, hI.2.2.2⟩ hC hR3 (by show 0 + N ≤ 8; omega) (by omega) hN (by omega) hfull (hE2.tf hT3) uI_eq (Nat.le_refl _)) mX7_tries vX7_tries lk_X7_242 (by first | assumption | exact Nat.zero_lt_one | exact Nat.zero_lt_two | exact Nat.one_lt_two) rfl rfl rfl rfl ⟨by first | decide | (simp only [rmd]; omega), by first | decide | (simp only [rmd]; omega), by first | decide | (simp only [rmd]; omega), by first | decide | (simp only [rmd]; omega)⟩ (Nat.le_of_ble_eq_true rfl) (fun _ _ h => h.elim) ⟨by decide, by decide⟩ (fun r_ M4 q114 => ?_)
        obtain ⟨c1, c2, c3, rfl⟩ := q114
        refine w_aload_n C dX7_leastLength_117 rfl ?_
        refine w_callV C dX7_leastLength_118 (c_X7_empties hl c1) mX7_empties vX7_empties lk_X7_106 (by first | assumption | exact Nat.zero_lt_one | exact Nat.zero_lt_two | exact Nat.one_lt_two) rfl rfl rfl rfl ⟨by first | decide | (simp only [rmd]; omega), by first | decide | (simp only [rmd]; omega), by first | decide | (simp only [rmd]; omega), by first | decide | (simp only [rmd]; omega)⟩ (Nat.le_of_ble_eq_true rfl) (fun _ _ h => h.elim) ⟨by decide, by decide⟩ (fun r_ M5 q118 => ?_)
        obtain ⟨d1, d2, d3, rfl⟩ := q118
        refine w_iconst C dX7_leastLength_121 ?_
        refine w_istore_n C dX7_leastLength_122 (by decide) ?_
        refine Wm.lsub (lv' := [(0, aO 40 0), (1, aI P.length), (2, aI nx), (3, aI ((0 : Nat) : Int))]) ⟨rfl, rfl, rfl, rfl, trivial⟩ (L2 P.length 0 M5 0 (Nat.zero_add _) d1 (((hK2.fr hT3.1).fr c2.1).fr (fun k hk j => d3 k (by omega) (by omega) j)) ?_)
        rw [d2 48 (by omega) (by omega), c3, Nat.min_eq_right hm61]
      · omega
    | succ d ih =>
      intro i M1 hi hR1 hE1 hK
      obtain ⟨p9, hp9⟩ : ∃ p9, P[i]? = some p9 := ⟨P[i], List.getElem?_eq_getElem (by omega)⟩
      obtain ⟨a1, a2, a3, a4, a5, a6⟩ := hR1.2.2.2.2.1.1 i p9 hp9
      obtain ⟨b1, b2, b3, b4, b5, b6, b7, b8⟩ := hI.2.1.1 p9 (List.mem_of_getElem? hp9)
      refine w_iload_n C dX7_leastLength_12 rfl ?_
      refine w_iload_n C dX7_leastLength_13 rfl ?_
      refine w_icmp_ge C dX7_leastLength_14 (by omega) (by omega) (fun h14 => ?_) (fun h14 => ?_)
      · omega
      · refine w_aload_n C dX7_leastLength_17 rfl ?_
        refine g_X7_88 C dX7_leastLength_18 (by first | assumption | exact Nat.zero_lt_one | exact Nat.zero_lt_two | exact Nat.one_lt_two) ?_
        refine w_iload_n C dX7_leastLength_21 rfl ?_
        refine w_aload_n C dX7_leastLength_22 rfl ?_
        refine g_X7_46 C dX7_leastLength_23 (by first | assumption | exact Nat.zero_lt_one | exact Nat.zero_lt_two | exact Nat.one_lt_two) ?_
        refine w_iload_n C dX7_leastLength_26 rfl ?_
        refine w_ialdN (j := i) C dX7_leastLength_27 Nat.zero_lt_one IA_53 rfl (by omega) ?_
        rw [a1]
        refine w_iastN (j := i) C dX7_leastLength_28 Nat.zero_lt_one IA_66 rfl (by omega) ?_
        refine w_aload_n C dX7_leastLength_29 rfl ?_
        refine g_X7_91 C dX7_leastLength_30 (by first | assumption | exact Nat.zero_lt_one | exact Nat.zero_lt_two | exact Nat.one_lt_two) ?_
        refine w_iload_n C dX7_leastLength_33 rfl ?_
        refine w_aload_n C dX7_leastLength_34 rfl ?_
        refine g_X7_49 C dX7_leastLength_35 (by first | assumption | exact Nat.zero_lt_one | exact Nat.zero_lt_two | exact Nat.one_lt_two) ?_
        refine w_iload_n C dX7_leastLength_38 rfl ?_
        refine w_ialdN (j := i) C dX7_leastLength_39 Nat.zero_lt_one IA_54 rfl (by omega) ?_
        refine Wm.top (v' := aI (pShp p9 : Nat)) (congrArg aI a2) ?_
        refine w_iastN (j := i) C dX7_leastLength_40 Nat.zero_lt_one IA_67 rfl (by omega) ?_
        refine w_aload_n C dX7_leastLength_41 rfl ?_
        refine g_X7_94 C dX7_leastLength_42 (by first | assumption | exact Nat.zero_lt_one | exact Nat.zero_lt_two | exact Nat.one_lt_two) ?_
        refine w_iload_n C dX7_leastLength_45 rfl ?_
        refine w_aload_n C dX7_leastLength_46 rfl ?_
        refine g_X7_52 C dX7_leastLength_47 (by first | assumption | exact Nat.zero_lt_one | exact Nat.zero_lt_two | exact Nat.one_lt_two) ?_
        refine w_iload_n C dX7_leastLength_50 rfl ?_
        refine w_ialdN (j := i) C dX7_leastLength_51 Nat.zero_lt_one IA_55 rfl (by omega) ?_
        refine Wm.top (v' := aI (pRow p9 : Nat)) (congrArg aI a3) ?_
        refine w_iastN (j := i) C dX7_leastLength_52 Nat.zero_lt_one IA_68 rfl (by omega) ?_
        refine w_aload_n C dX7_leastLength_53 rfl ?_
        refine g_X7_97 C dX7_leastLength_54 (by first | assumption | exact Nat.zero_lt_one | exact Nat.zero_lt_two | exact Nat.one_lt_two) ?_
        refine w_iload_n C dX7_leastLength_57 rfl ?_
        refine w_aload_n C dX7_leastLength_58 rfl ?_
        refine g_X7_55 C dX7_leastLength_59 (by first | assumption | exact Nat.zero_lt_one | exact Nat.zero_lt_two | exact Nat.one_lt_two) ?_
        refine w_iload_n C dX7_leastLength_62 rfl ?_
        refine w_ialdN (j := i) C dX7_leastLength_63 Nat.zero_lt_one IA_56 rfl (by omega) ?_
        refine Wm.top (v' := aI (pCol p9 : Nat)) (congrArg aI a4) ?_
        refine w_iastN (j := i) C dX7_leastLength_64 Nat.zero_lt_one IA_69 rfl (by omega) ?_
        refine w_aload_n C dX7_leastLength_65 rfl ?_
        refine g_X7_100 C dX7_leastLength_66 (by first | assumption | exact Nat.zero_lt_one | exact Nat.zero_lt_two | exact Nat.one_lt_two) ?_
        refine w_iload_n C dX7_leastLength_69 rfl ?_
        refine w_aload_n C dX7_leastLength_70 rfl ?_
        refine g_X7_58 C dX7_leastLength_71 (by first | assumption | exact Nat.zero_lt_one | exact Nat.zero_lt_two | exact Nat.one_lt_two) ?_
        refine w_iload_n C dX7_leastLength_74 rfl ?_
        refine w_ialdN (j := i) C dX7_leastLength_75 Nat.zero_lt_one IA_57 rfl (by omega) ?_
        refine Wm.top (v' := aI (pTrn p9 : Nat)) (congrArg aI a5) ?_
        refine w_iastN (j := i) C dX7_leastLength_76 Nat.zero_lt_one IA_70 rfl (by omega) ?_
        refine w_aload_n C dX7_leastLength_77 rfl ?_
        refine g_X7_103 C dX7_leastLength_78 (by first | assumption | exact Nat.zero_lt_one | exact Nat.zero_lt_two | exact Nat.one_lt_two) ?_
        refine w_iload_n C dX7_leastLength_81 rfl ?_
        refine w_aload_n C dX7_leastLength_82 rfl ?_
        refine g_X7_61 C dX7_leastLength_83 (by first | assumption | exact Nat.zero_lt_one | exact Nat.zero_lt_two | exact Nat.one_lt_two) ?_
        refine w_iload_n C dX7_leastLength_86 rfl ?_
        refine w_zaldN (j := i) C dX7_leastLength_87 Nat.zero_lt_one ZA_45 rfl (by omega) ?_
        refine Wm.top (v' := aI (pMir p9 : Nat)) (congrArg aI a6) ?_
        refine w_zastN (j := i) C dX7_leastLength_88 Nat.zero_lt_one ZA_46 rfl (by omega) (by omega) ?_
        refine w_iinc C dX7_leastLength_89 rfl (by decide) ?_
        refine w_goto C dX7_leastLength_92 ?_
        refine Wm.lsub (lv' := [(0, aO 40 0), (1, aI P.length), (2, aI nx), (3, aI ((i + 1 : Nat) : Int))]) ⟨rfl, rfl, rfl, rfl, trivial⟩ (ih (i + 1) _ (by omega) ?_ ?_ (hK.step hp9))
        · exact RepMo.k46 (hR1.fr (((((FrM.rf.uI (Or.inr (by omega))).uI (Or.inr (by omega))).uI (Or.inr (by omega))).uI (Or.inr (by omega))).uI (Or.inr (by omega))))
        · exact ⟨hE1.1, fun t ht => ⟨(hE1.2 t ht).1, (hE1.2 t ht).2⟩⟩
  have e17 := hR.1.2.2.2.2.2.2.1
  have e18 := hR.1.2.2.2.2.2.2.2.1
  refine w_aload_n C dX7_leastLength_0 rfl ?_
  refine g_X7_112 C dX7_leastLength_1 (by first | assumption | exact Nat.zero_lt_one | exact Nat.zero_lt_two | exact Nat.one_lt_two) ?_
  refine Wm.top (v' := aI (P.length : Nat)) (congrArg aI e17) ?_
  refine w_istore_n C dX7_leastLength_4 (by decide) ?_
  refine w_aload_n C dX7_leastLength_5 rfl ?_
  refine g_X7_115 C dX7_leastLength_6 (by first | assumption | exact Nat.zero_lt_one | exact Nat.zero_lt_two | exact Nat.one_lt_two) ?_
  refine Wm.top (v' := aI (nx : Nat)) (congrArg aI e18) ?_
  refine w_istore_n C dX7_leastLength_9 (by decide) ?_
  refine w_iconst C dX7_leastLength_10 ?_
  refine w_istore_n C dX7_leastLength_11 (by decide) ?_
  exact Wm.lsub (lv' := [(0, aO 40 0), (1, aI P.length), (2, aI nx), (3, aI ((0 : Nat) : Int))]) ⟨rfl, rfl, rfl, rfl, trivial⟩ (L1 P.length 0 M (Nat.zero_add _) hR hE (fun i p hi _ => absurd hi (Nat.not_lt_zero i)))
end Mo
