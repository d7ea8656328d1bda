-- MODEL
/-! the model: taking off, nesting -/
theorem er_get {P : List Pc} {i k : Nat} : (P.eraseIdx i)[k]? = if k < i then P[k]? else P[k + 1]? := by
  rw [List.getElem?_eraseIdx]
theorem num_inj {S : Sg} {P : List Pc} (hd : P.Pairwise (fun p q => pNum p < pNum q ∧ ∀ r c, ¬ (cv S p r c = true ∧ cv S q r c = true))) {p q : Pc} (hp : p ∈ P) (hq : q ∈ P) (h : pNum p = pNum q) : p = q := by
  obtain ⟨a, ha⟩ := List.getElem?_of_mem hp
  obtain ⟨b, hb⟩ := List.getElem?_of_mem hq
  obtain ⟨ha1, ha2⟩ := List.getElem?_eq_some_iff.mp ha
  obtain ⟨hb1, hb2⟩ := List.getElem?_eq_some_iff.mp hb
  have hpw := List.pairwise_iff_getElem.mp hd
  rcases Nat.lt_trichotomy a b with z | z | z
  · have := (hpw a b ha1 hb1 z).1
    rw [ha2, hb2] at this
    omega
  · subst z
    rw [← ha2, ← hb2]
  · have := (hpw b a hb1 ha1 z).1
    rw [ha2, hb2] at this
    omega
theorem clo_num {S : Sg} {P : List Pc} {nx : Nat} (hI : PInv S P nx) {q : Pc} (hq : q ∈ P) {k : Nat} : clo S P k = pNum q ↔ cv S q (k / 12) (k % 12) = true := by
  constructor
  · intro h
    unfold clo at h
    cases hf : P.find? (fun p => cv S p (k / 12) (k % 12)) with
    | none =>
      rw [hf] at h
      have h' : (-1 : Int) = pNum q := h
      omega
    | some p =>
      rw [hf] at h
      have h' : (pNum p : Int) = pNum q := h
      have hp := List.mem_of_find?_eq_some hf
      have hc := List.find?_some hf
      have : p = q := num_inj hI.2.1 hp hq (by omega)
      rw [← this]
      exact hc
  · exact clo_yes hI.2.1 hq
section Mo
variable {l : Launch} {b0 : Nat → Prop} {ad : Ads} {M : Mem}
theorem c_X7_takes (hl : l.stackTraces = false) {S : Sg} {P : List Pc} {nx : Nat} (hI : Inv S P nx) (hnx : nx < 1000000) (hR : RepMo S P nx M) (i : Nat) (q : Pc) (hq : P[i]? = some q) : Con l b0 yX7_takes cX7_takes 4 none 2 0 0 [aO 40 0, aI i] ad cntM M (fun r9 M' => RepMo S (P.eraseIdx i) nx M' ∧ PuM M M' ∧ r9 = none) noX := by
  have hi : i < P.length := (List.getElem?_eq_some_iff.mp hq).1
  have hP := hI.2.2.1
  have hqm := List.mem_of_getElem? hq
  obtain ⟨i1, i2, i3, i4, i5, i6, i7, i8⟩ := hI.2.1.1 q hqm
  obtain ⟨t1, t2, t3, t4, t5, t6⟩ := hR.2.2.2.2.1.1 i q hq
  have g6 := hI.1.2.2.2.2.2.1
  obtain ⟨p1, p2, p3, p4, p5, p6, p7, p8, p9⟩ := hI.1.2.2.2.2.2.2.2.2.2.1 (pShp q)
  have q49 := (hR.2.2.1 (pShp q) (by omega)).2.2.2.1
  have e4 := hR.1.2.2.2.1
  have e17 := hR.1.2.2.2.2.2.2.1
  have e18 := hR.1.2.2.2.2.2.2.2.1
  have hb3 := b2_01 (gpS S (pShp q) ≠ 0 ∧ 2 ≤ srS S)
  have o60 := hR.2.2.2.2.1.2.2.1
  have o59 := hR.2.2.2.2.1.2.2.2
  have hlen : (P.eraseIdx i).length = P.length - 1 := List.length_eraseIdx_of_lt hi
  refine Con.of hl pl_X7 (Nat.le_of_ble_eq_true rfl) ?_
  intro D cA p e s m args below meth c C hr
  have L88 : ∀ (d n : Nat) (M1 : Mem), n + d + 1 = P.length → i ≤ n → PuM M M1 → M1.1 40 0 17 = (P.length - 1 : Nat) → M1.1 40 0 18 = nx → (∀ k, k < 720 → M1.1 58 0 k = clo S (P.eraseIdx i) k) → (∀ g, g < 4 → M1.1 60 0 g = ogS S (P.eraseIdx i) g) → (∀ k, M1.1 59 0 k = M.1 59 0 k) → (∀ k p, k < n → (P.eraseIdx i)[k]? = some p → RepPm p k M1) → (∀ k p, n ≤ k → P[k]? = some p → RepPm p k M1) → Wm p l e (rmd 2 0 0) s m args below meth c 4 D cA b0 0 0 (vx_MQ below (mQ D cA b0 ad cntM (fun r9 M' => RepMo S (P.eraseIdx i) nx M' ∧ PuM M M' ∧ r9 = none)) (mX D cA b0 ad cntM noX) args s 0 0 b0) 88 [(0, aO 40 0), (1, aI i), (3, aI n)] [] ad cntM M1 := by
    intro d
    induction d with
    | zero =>
      intro n M1 hn hin hF h17 h18 h58 h60 h59 hlo hhi
      refine w_iload_n C dX7_takes_88 rfl ?_
      refine w_aload_n C dX7_takes_89 rfl ?_
      refine g_X7_112 C dX7_takes_90 (by first | assumption | exact Nat.zero_lt_one | exact Nat.zero_lt_two | exact Nat.one_lt_two) ?_
      refine w_icmp_ge C dX7_takes_93 (by omega) (by omega) (fun h93 => ?_) (fun h93 => ?_)
      · refine w_vret C hr dX7_takes_186 (by
          refine ⟨hF.mo hR (by rw [h17, hlen]) h18 ⟨fun k p hp => ?_, h58, h60, fun p hp h1 h2 => ?_⟩, hF, rfl⟩
          · have := (List.getElem?_eq_some_iff.mp hp).1
            exact hlo k p (by omega) hp
          · rw [h59]
            exact o59 p (List.mem_of_mem_eraseIdx hp) h1 h2) (by decide) (by decide)
      · omega
    | succ d ih =>
      intro n M1 hn hin hF h17 h18 h58 h60 h59 hlo hhi
      obtain ⟨pq, hp⟩ : ∃ pq, P[n + 1]? = some pq := ⟨_, List.getElem?_eq_getElem (by omega)⟩
      obtain ⟨a1, a2, a3, a4, a5, a6⟩ := hhi (n + 1) pq (by omega) hp
      have hmir := (hI.2.1.1 pq (List.mem_of_getElem? hp)).2.2.2.1
      have hee : ∀ k s, ¬ ((k = 45 ∨ 53 ≤ k ∧ k ≤ 57) ∧ s = n) → (uI (uI (uI (uI (uI (uI M1 53 0 n (pNum pq : Nat)) 54 0 n (pShp pq : Nat)) 55 0 n (pRow pq : Nat)) 56 0 n (pCol pq : Nat)) 57 0 n (pTrn pq : Nat)) 45 0 n (pMir pq : Nat)).1 k 0 s = M1.1 k 0 s := fun k s hk => by
        rw [uI_ne (by omega), uI_ne (by omega), uI_ne (by omega), uI_ne (by omega), uI_ne (by omega), uI_ne (by omega)]
      have K180 : Wm p l e (rmd 2 0 0) s m args below meth c 4 D cA b0 0 0 (vx_MQ below (mQ D cA b0 ad cntM (fun r9 M' => RepMo S (P.eraseIdx i) nx M' ∧ PuM M M' ∧ r9 = none)) (mX D cA b0 ad cntM noX) args s 0 0 b0) 180 [(0, aO 40 0), (1, aI i), (3, aI n)] [] ad cntM (uI (uI (uI (uI (uI (uI M1 53 0 n (pNum pq : Nat)) 54 0 n (pShp pq : Nat)) 55 0 n (pRow pq : Nat)) 56 0 n (pCol pq : Nat)) 57 0 n (pTrn pq : Nat)) 45 0 n (pMir pq : Nat)) := by
        refine w_iinc C dX7_takes_180 rfl (by decide) ?_
        refine w_goto C dX7_takes_183 ?_
        refine Wm.lsub (lv' := [(0, aO 40 0), (1, aI i), (3, aI ((n + 1 : Nat) : Int))]) ⟨rfl, rfl, rfl, trivial⟩ (ih (n + 1) _ (by omega) (by omega) ((((((hF.uI (by omega)).uI (by omega)).uI (by omega)).uI (by omega)).uI (by omega)).uI (by omega)) ((hee 40 17 (by omega)).trans h17) ((hee 40 18 (by omega)).trans h18) (fun k hk => (hee 58 k (by omega)).trans (h58 k hk)) (fun g hg => (hee 60 g (by omega)).trans (h60 g hg)) (fun k => (hee 59 k (by omega)).trans (h59 k)) (fun k p' hk hp' => ?_) (fun k p' hk hp' => ?_))
        · by_cases hkn : k = n
          · subst hkn
            rw [er_get, if_neg (by omega)] at hp'
            obtain rfl := Option.some.inj (hp.symm.trans hp')
            refine ⟨?_, ?_, ?_, ?_, ?_, ?_⟩
            · rw [uI_ne (by omega), uI_ne (by omega), uI_ne (by omega), uI_ne (by omega), uI_ne (by omega), uI_eq]
            · rw [uI_ne (by omega), uI_ne (by omega), uI_ne (by omega), uI_ne (by omega), uI_eq]
            · rw [uI_ne (by omega), uI_ne (by omega), uI_ne (by omega), uI_eq]
            · rw [uI_ne (by omega), uI_ne (by omega), uI_eq]
            · rw [uI_ne (by omega), uI_eq]
            · rw [uI_eq]
          · obtain ⟨b1, b2', b3, b4, b5, b6⟩ := hlo k p' (by omega) hp'
            exact ⟨(hee 53 k (by omega)).trans b1, (hee 54 k (by omega)).trans b2', (hee 55 k (by omega)).trans b3, (hee 56 k (by omega)).trans b4, (hee 57 k (by omega)).trans b5, (hee 45 k (by omega)).trans b6⟩
        · obtain ⟨b1, b2', b3, b4, b5, b6⟩ := hhi k p' (by omega) hp'
          exact ⟨(hee 53 k (by omega)).trans b1, (hee 54 k (by omega)).trans b2', (hee 55 k (by omega)).trans b3, (hee 56 k (by omega)).trans b4, (hee 57 k (by omega)).trans b5, (hee 45 k (by omega)).trans b6⟩
      refine w_iload_n C dX7_takes_88 rfl ?_
      refine w_aload_n C dX7_takes_89 rfl ?_
      refine g_X7_112 C dX7_takes_90 (by first | assumption | exact Nat.zero_lt_one | exact Nat.zero_lt_two | exact Nat.one_lt_two) ?_
      refine w_icmp_ge C dX7_takes_93 (by omega) (by omega) (fun h93 => ?_) (fun h93 => ?_)
      · omega
      · refine w_aload_n C dX7_takes_96 rfl ?_
        refine g_X7_46 C dX7_takes_97 (by first | assumption | exact Nat.zero_lt_one | exact Nat.zero_lt_two | exact Nat.one_lt_two) ?_
        refine w_iload_n C dX7_takes_100 rfl ?_
        refine w_aload_n C dX7_takes_101 rfl ?_
        refine g_X7_46 C dX7_takes_102 (by first | assumption | exact Nat.zero_lt_one | exact Nat.zero_lt_two | exact Nat.one_lt_two) ?_
        refine w_iload_n C dX7_takes_105 rfl ?_
        refine w_iconst C dX7_takes_106 ?_
        refine w_iadd C dX7_takes_107 ?_
        refine w_ialdN (j := n + 1) C dX7_takes_108 (by first | assumption | exact Nat.zero_lt_one | exact Nat.zero_lt_two | exact Nat.one_lt_two) IA_53 (by omega) (by omega) ?_
        rw [a1]
        refine w_iastN (j := n) C dX7_takes_109 (by first | assumption | exact Nat.zero_lt_one | exact Nat.zero_lt_two | exact Nat.one_lt_two) IA_53 (by omega) (by omega) ?_
        refine w_aload_n C dX7_takes_110 rfl ?_
        refine g_X7_49 C dX7_takes_111 (by first | assumption | exact Nat.zero_lt_one | exact Nat.zero_lt_two | exact Nat.one_lt_two) ?_
        refine w_iload_n C dX7_takes_114 rfl ?_
        refine w_aload_n C dX7_takes_115 rfl ?_
        refine g_X7_49 C dX7_takes_116 (by first | assumption | exact Nat.zero_lt_one | exact Nat.zero_lt_two | exact Nat.one_lt_two) ?_
        refine w_iload_n C dX7_takes_119 rfl ?_
        refine w_iconst C dX7_takes_120 ?_
        refine w_iadd C dX7_takes_121 ?_
        refine w_ialdN (j := n + 1) C dX7_takes_122 (by first | assumption | exact Nat.zero_lt_one | exact Nat.zero_lt_two | exact Nat.one_lt_two) IA_54 (by omega) (by omega) ?_
        rw [uI_ne (by omega), a2]
        refine w_iastN (j := n) C dX7_takes_123 (by first | assumption | exact Nat.zero_lt_one | exact Nat.zero_lt_two | exact Nat.one_lt_two) IA_54 (by omega) (by omega) ?_
        refine w_aload_n C dX7_takes_124 rfl ?_
        refine g_X7_52 C dX7_takes_125 (by first | assumption | exact Nat.zero_lt_one | exact Nat.zero_lt_two | exact Nat.one_lt_two) ?_
        refine w_iload_n C dX7_takes_128 rfl ?_
        refine w_aload_n C dX7_takes_129 rfl ?_
        refine g_X7_52 C dX7_takes_130 (by first | assumption | exact Nat.zero_lt_one | exact Nat.zero_lt_two | exact Nat.one_lt_two) ?_
        refine w_iload_n C dX7_takes_133 rfl ?_
        refine w_iconst C dX7_takes_134 ?_
        refine w_iadd C dX7_takes_135 ?_
        refine w_ialdN (j := n + 1) C dX7_takes_136 (by first | assumption | exact Nat.zero_lt_one | exact Nat.zero_lt_two | exact Nat.one_lt_two) IA_55 (by omega) (by omega) ?_
        rw [uI_ne (by omega), uI_ne (by omega), a3]
        refine w_iastN (j := n) C dX7_takes_137 (by first | assumption | exact Nat.zero_lt_one | exact Nat.zero_lt_two | exact Nat.one_lt_two) IA_55 (by omega) (by omega) ?_
        refine w_aload_n C dX7_takes_138 rfl ?_
        refine g_X7_55 C dX7_takes_139 (by first | assumption | exact Nat.zero_lt_one | exact Nat.zero_lt_two | exact Nat.one_lt_two) ?_
        refine w_iload_n C dX7_takes_142 rfl ?_
        refine w_aload_n C dX7_takes_143 rfl ?_
        refine g_X7_55 C dX7_takes_144 (by first | assumption | exact Nat.zero_lt_one | exact Nat.zero_lt_two | exact Nat.one_lt_two) ?_
        refine w_iload_n C dX7_takes_147 rfl ?_
        refine w_iconst C dX7_takes_148 ?_
        refine w_iadd C dX7_takes_149 ?_
        refine w_ialdN (j := n + 1) C dX7_takes_150 (by first | assumption | exact Nat.zero_lt_one | exact Nat.zero_lt_two | exact Nat.one_lt_two) IA_56 (by omega) (by omega) ?_
        rw [uI_ne (by omega), uI_ne (by omega), uI_ne (by omega), a4]
        refine w_iastN (j := n) C dX7_takes_151 (by first | assumption | exact Nat.zero_lt_one | exact Nat.zero_lt_two | exact Nat.one_lt_two) IA_56 (by omega) (by omega) ?_
        refine w_aload_n C dX7_takes_152 rfl ?_
        refine g_X7_58 C dX7_takes_153 (by first | assumption | exact Nat.zero_lt_one | exact Nat.zero_lt_two | exact Nat.one_lt_two) ?_
        refine w_iload_n C dX7_takes_156 rfl ?_
        refine w_aload_n C dX7_takes_157 rfl ?_
        refine g_X7_58 C dX7_takes_158 (by first | assumption | exact Nat.zero_lt_one | exact Nat.zero_lt_two | exact Nat.one_lt_two) ?_
        refine w_iload_n C dX7_takes_161 rfl ?_
        refine w_iconst C dX7_takes_162 ?_
        refine w_iadd C dX7_takes_163 ?_
        refine w_ialdN (j := n + 1) C dX7_takes_164 (by first | assumption | exact Nat.zero_lt_one | exact Nat.zero_lt_two | exact Nat.one_lt_two) IA_57 (by omega) (by omega) ?_
        rw [uI_ne (by omega), uI_ne (by omega), uI_ne (by omega), uI_ne (by omega), a5]
        refine w_iastN (j := n) C dX7_takes_165 (by first | assumption | exact Nat.zero_lt_one | exact Nat.zero_lt_two | exact Nat.one_lt_two) IA_57 (by omega) (by omega) ?_
        refine w_aload_n C dX7_takes_166 rfl ?_
        refine g_X7_61 C dX7_takes_167 (by first | assumption | exact Nat.zero_lt_one | exact Nat.zero_lt_two | exact Nat.one_lt_two) ?_
        refine w_iload_n C dX7_takes_170 rfl ?_
        refine w_aload_n C dX7_takes_171 rfl ?_
        refine g_X7_61 C dX7_takes_172 (by first | assumption | exact Nat.zero_lt_one | exact Nat.zero_lt_two | exact Nat.one_lt_two) ?_
        refine w_iload_n C dX7_takes_175 rfl ?_
        refine w_iconst C dX7_takes_176 ?_
        refine w_iadd C dX7_takes_177 ?_
        refine w_zaldN (j := n + 1) C dX7_takes_178 (by first | assumption | exact Nat.zero_lt_one | exact Nat.zero_lt_two | exact Nat.one_lt_two) ZA_45 (by omega) (by omega) ?_
        rw [uI_ne (by omega), uI_ne (by omega), uI_ne (by omega), uI_ne (by omega), uI_ne (by omega), a6]
        refine w_zastN (j := n) C dX7_takes_179 (by first | assumption | exact Nat.zero_lt_one | exact Nat.zero_lt_two | exact Nat.one_lt_two) ZA_45 (by omega) (by omega) (by omega) ?_
        exact K180
  have K76 : ∀ M1 : Mem, PuM M M1 → (∀ k, ¬ (k = 58 ∨ k = 60) → ∀ s, M1.1 k 0 s = M.1 k 0 s) → (∀ k, k < 720 → M1.1 58 0 k = clo S (P.eraseIdx i) k) → (∀ g, g < 4 → M1.1 60 0 g = ogS S (P.eraseIdx i) g) → Wm p l e (rmd 2 0 0) s m args below meth c 4 D cA b0 0 0 (vx_MQ below (mQ D cA b0 ad cntM (fun r9 M' => RepMo S (P.eraseIdx i) nx M' ∧ PuM M M' ∧ r9 = none)) (mX D cA b0 ad cntM noX) args s 0 0 b0) 76 [(0, aO 40 0), (1, aI i)] [] ad cntM M1 := by
    intro M1 hF hU h58 h60
    have d17 := (hU 40 (by omega) 17).trans e17
    have d18 := (hU 40 (by omega) 18).trans e18
    refine w_aload_n C dX7_takes_76 rfl ?_
    refine w_dup C dX7_takes_77 rfl ?_
    refine g_X7_112 C dX7_takes_78 (by first | assumption | exact Nat.zero_lt_one | exact Nat.zero_lt_two | exact Nat.one_lt_two) ?_
    refine w_iconst C dX7_takes_81 ?_
    refine w_isub C dX7_takes_82 ?_
    refine p_X7_112 C dX7_takes_83 (by first | assumption | exact Nat.zero_lt_one | exact Nat.zero_lt_two | exact Nat.one_lt_two) ?_
    refine w_iload_n C dX7_takes_86 rfl ?_
    refine w_istore_n C dX7_takes_87 (by decide) ?_
    refine Wm.lsub (lv' := [(0, aO 40 0), (1, aI i), (3, aI i)]) ⟨rfl, rfl, rfl, trivial⟩ (L88 (P.length - 1 - i) i _ (by omega) (Nat.le_refl _) (hF.uI (by omega)) (by rw [uI_eq, d17]; omega) (by rw [uI_ne (by omega)]; exact d18) (fun k hk => by rw [uI_ne (by omega)]; exact h58 k hk) (fun g hg => by rw [uI_ne (by omega)]; exact h60 g hg) (fun k => by rw [uI_ne (by omega)]; exact hU 59 (by omega) k) (fun k p hk hp => ?_) (fun k p hk hp => ?_))
    · rw [er_get, if_pos hk] at hp
      obtain ⟨b1, b2', b3, b4, b5, b6⟩ := hR.2.2.2.2.1.1 k p hp
      exact ⟨by rw [uI_ne (by omega), hU 53 (by omega)]; exact b1, by rw [uI_ne (by omega), hU 54 (by omega)]; exact b2', by rw [uI_ne (by omega), hU 55 (by omega)]; exact b3, by rw [uI_ne (by omega), hU 56 (by omega)]; exact b4, by rw [uI_ne (by omega), hU 57 (by omega)]; exact b5, by rw [uI_ne (by omega), hU 45 (by omega)]; exact b6⟩
    · obtain ⟨b1, b2', b3, b4, b5, b6⟩ := hR.2.2.2.2.1.1 k p hp
      exact ⟨by rw [uI_ne (by omega), hU 53 (by omega)]; exact b1, by rw [uI_ne (by omega), hU 54 (by omega)]; exact b2', by rw [uI_ne (by omega), hU 55 (by omega)]; exact b3, by rw [uI_ne (by omega), hU 56 (by omega)]; exact b4, by rw [uI_ne (by omega), hU 57 (by omega)]; exact b5, by rw [uI_ne (by omega), hU 45 (by omega)]; exact b6⟩
  have L2 : ∀ (d n : Nat) (M1 : Mem), n + d = 720 → (∀ k, k ≠ 58 → ∀ s, M1.1 k 0 s = M.1 k 0 s) → M1.2 = M.2 → (∀ k, k < n → M1.1 58 0 k = clo S (P.eraseIdx i) k) → (∀ k, n ≤ k → M1.1 58 0 k = M.1 58 0 k) → Wm p l e (rmd 2 0 0) s m args below meth c 4 D cA b0 0 0 (vx_MQ below (mQ D cA b0 ad cntM (fun r9 M' => RepMo S (P.eraseIdx i) nx M' ∧ PuM M M' ∧ r9 = none)) (mX D cA b0 ad cntM noX) args s 0 0 b0) 2 [(0, aO 40 0), (1, aI i), (2, aI n)] [] ad cntM M1 := by
    intro d
    induction d with
    | zero =>
      intro n M1 hn hU hU2 hlo hhi
      have c54 := (hU 54 (by decide) i).trans t2
      have c49 := (hU 49 (by decide) (pShp q)).trans q49
      have c4 := (hU 40 (by decide) 4).trans e4
      have hpu : PuM M M1 := ⟨fun s _ _ => hU 40 (by decide) s, fun k _ h s => hU k (by omega) s, hU2⟩
      refine w_iload_n C dX7_takes_2 rfl ?_
      refine w_sipush (v := 720) C dX7_takes_3 rfl ?_
      refine w_icmp_ge C dX7_takes_6 (by omega) (by omega) (fun h6 => ?_) (fun h6 => ?_)
      · refine w_aload_n C dX7_takes_46 rfl ?_
        refine g_X7_49 C dX7_takes_47 (by first | assumption | exact Nat.zero_lt_one | exact Nat.zero_lt_two | exact Nat.one_lt_two) ?_
        refine w_iload_n C dX7_takes_50 rfl ?_
        refine w_ialdN (j := i) C dX7_takes_51 (by first | assumption | exact Nat.zero_lt_one | exact Nat.zero_lt_two | exact Nat.one_lt_two) IA_54 (by omega) (by omega) ?_
        rw [c54]
        refine w_istore_n C dX7_takes_52 (by decide) ?_
        refine w_aload_n C dX7_takes_53 rfl ?_
        refine w_iload_n C dX7_takes_54 rfl ?_
        refine w_callV C dX7_takes_55 (c_X7_isMarkedF hl hI.1 (pShp q) (by omega) c49 c4) mX7_isMarked vX7_isMarked lk_X7_183 (by first | assumption | exact Nat.zero_lt_one | exact Nat.zero_lt_two | exact Nat.one_lt_two) rfl rfl rfl rfl ⟨by decide, by decide, by decide, by decide⟩ (Nat.le_of_ble_eq_true rfl) (fun _ _ h => h.elim) ⟨by decide, by decide⟩ (fun r_ M_ q55 => ?_)
        obtain ⟨rfl, rfl⟩ := q55
        refine w_if_eq C dX7_takes_58 (by omega) (fun h58 => ?_) (fun h58 => ?_)
        · have y2 := b2_is0 h58
          first | (refine Wm.lsub (lv' := [(0, aO 40 0), (1, aI i)]) ⟨rfl, rfl, trivial⟩ (K76 _ hpu (fun k hk s => hU k (by omega) s) (fun k hk => hlo k (by omega)) (fun g hg => ?_)); rw [hU 60 (by decide) g, o60 g hg]; unfold ogS; rw [inGr_erase hq]; by_cases hs : 2 ≤ srS S; (rw [if_pos hs, if_pos hs, if_neg (by omega)]; rfl); (rw [if_neg hs, if_neg hs])) | (refine Wm.lsub (lv' := [(0, aO 40 0), (1, aI i)]) ⟨rfl, rfl, trivial⟩ (K76 _ (hpu.uI (by omega)) (fun k hk s => by rw [uI_ne (by omega)]; exact hU k (by omega) s) (fun k hk => by rw [uI_ne (by omega)]; exact hlo k (by omega)) (fun g hg => ?_)); by_cases hgg : g = gpS S (pShp q) - 1; (rw [hgg, uI_eq, hU 60 (by decide), o60 _ (by omega)]; unfold ogS; rw [inGr_erase hq, if_pos y2.2, if_pos y2.2, if_pos (show gpS S (pShp q) = gpS S (pShp q) - 1 + 1 by omega)]; omega); (rw [uI_ne (by omega), hU 60 (by decide), o60 g hg]; unfold ogS; rw [inGr_erase hq, if_pos y2.2, if_pos y2.2, if_neg (show ¬ gpS S (pShp q) = g + 1 by omega)]; rfl))
        · have y2 := b2_n0 h58
          refine w_aload_n C dX7_takes_61 rfl ?_
          refine g_X7_70 C dX7_takes_62 (by first | assumption | exact Nat.zero_lt_one | exact Nat.zero_lt_two | exact Nat.one_lt_two) ?_
          refine w_aload_n C dX7_takes_65 rfl ?_
          refine g_X7_31 C dX7_takes_66 (by first | assumption | exact Nat.zero_lt_one | exact Nat.zero_lt_two | exact Nat.one_lt_two) ?_
          refine w_iload_n C dX7_takes_69 rfl ?_
          refine w_ialdN (j := pShp q) C dX7_takes_70 (by first | assumption | exact Nat.zero_lt_one | exact Nat.zero_lt_two | exact Nat.one_lt_two) IA_49 (by omega) (by omega) ?_
          rw [c49]
          refine w_dup2 C dX7_takes_71 rfl rfl ?_
          refine w_ialdN (j := gpS S (pShp q) - 1) C dX7_takes_72 (by first | assumption | exact Nat.zero_lt_one | exact Nat.zero_lt_two | exact Nat.one_lt_two) IA_60 (by omega) (by omega) ?_
          refine w_iconst C dX7_takes_73 ?_
          refine w_isub C dX7_takes_74 ?_
          refine w_iastN (j := gpS S (pShp q) - 1) C dX7_takes_75 (by first | assumption | exact Nat.zero_lt_one | exact Nat.zero_lt_two | exact Nat.one_lt_two) IA_60 (by omega) (by omega) ?_
          first | (refine Wm.lsub (lv' := [(0, aO 40 0), (1, aI i)]) ⟨rfl, rfl, trivial⟩ (K76 _ hpu (fun k hk s => hU k (by omega) s) (fun k hk => hlo k (by omega)) (fun g hg => ?_)); rw [hU 60 (by decide) g, o60 g hg]; unfold ogS; rw [inGr_erase hq]; by_cases hs : 2 ≤ srS S; (rw [if_pos hs, if_pos hs, if_neg (by omega)]; rfl); (rw [if_neg hs, if_neg hs])) | (refine Wm.lsub (lv' := [(0, aO 40 0), (1, aI i)]) ⟨rfl, rfl, trivial⟩ (K76 _ (hpu.uI (by omega)) (fun k hk s => by rw [uI_ne (by omega)]; exact hU k (by omega) s) (fun k hk => by rw [uI_ne (by omega)]; exact hlo k (by omega)) (fun g hg => ?_)); by_cases hgg : g = gpS S (pShp q) - 1; (rw [hgg, uI_eq, hU 60 (by decide), o60 _ (by omega)]; unfold ogS; rw [inGr_erase hq, if_pos y2.2, if_pos y2.2, if_pos (show gpS S (pShp q) = gpS S (pShp q) - 1 + 1 by omega)]; omega); (rw [uI_ne (by omega), hU 60 (by decide), o60 g hg]; unfold ogS; rw [inGr_erase hq, if_pos y2.2, if_pos y2.2, if_neg (show ¬ gpS S (pShp q) = g + 1 by omega)]; rfl))
      · omega
    | succ d ih =>
      intro n M1 hn hU hU2 hlo hhi
      have c53 := (hU 53 (by decide) i).trans t1
      have c58 := (hhi n (Nat.le_refl n)).trans (hR.2.2.2.2.1.2.1 n (by omega))
      have hbd := clo_bd hI hnx n
      have hcn := clo_num (k := n) hI.2.1 hqm
      have hce := clo_erase hI.2.1.2.1 hq n
      refine w_iload_n C dX7_takes_2 rfl ?_
      refine w_sipush (v := 720) C dX7_takes_3 rfl ?_
      refine w_icmp_ge C dX7_takes_6 (by omega) (by omega) (fun h6 => ?_) (fun h6 => ?_)
      · omega
      · refine w_aload_n C dX7_takes_9 rfl ?_
        refine g_X7_64 C dX7_takes_10 (by first | assumption | exact Nat.zero_lt_one | exact Nat.zero_lt_two | exact Nat.one_lt_two) ?_
        refine w_iload_n C dX7_takes_13 rfl ?_
        refine w_aload_n C dX7_takes_14 rfl ?_
        refine g_X7_64 C dX7_takes_15 (by first | assumption | exact Nat.zero_lt_one | exact Nat.zero_lt_two | exact Nat.one_lt_two) ?_
        refine w_iload_n C dX7_takes_18 rfl ?_
        refine w_ialdN (j := n) C dX7_takes_19 (by first | assumption | exact Nat.zero_lt_one | exact Nat.zero_lt_two | exact Nat.one_lt_two) IA_58 (by omega) (by omega) ?_
        rw [c58]
        refine w_aload_n C dX7_takes_20 rfl ?_
        refine g_X7_46 C dX7_takes_21 (by first | assumption | exact Nat.zero_lt_one | exact Nat.zero_lt_two | exact Nat.one_lt_two) ?_
        refine w_iload_n C dX7_takes_24 rfl ?_
        refine w_ialdN (j := i) C dX7_takes_25 (by first | assumption | exact Nat.zero_lt_one | exact Nat.zero_lt_two | exact Nat.one_lt_two) IA_53 (by omega) (by omega) ?_
        rw [c53]
        skip
        refine w_icmp_ne C dX7_takes_26 (by omega) (by omega) (fun h26 => ?_) (fun h26 => ?_)
        · refine w_aload_n C dX7_takes_33 rfl ?_
          refine g_X7_64 C dX7_takes_34 (by first | assumption | exact Nat.zero_lt_one | exact Nat.zero_lt_two | exact Nat.one_lt_two) ?_
          refine w_iload_n C dX7_takes_37 rfl ?_
          refine w_ialdN (j := n) C dX7_takes_38 (by first | assumption | exact Nat.zero_lt_one | exact Nat.zero_lt_two | exact Nat.one_lt_two) IA_58 (by omega) (by omega) ?_
          rw [c58]
          refine w_iastN (j := n) C dX7_takes_39 (by first | assumption | exact Nat.zero_lt_one | exact Nat.zero_lt_two | exact Nat.one_lt_two) IA_58 (by omega) (by omega) ?_
          refine w_iinc C dX7_takes_40 rfl (by decide) ?_
          refine w_goto C dX7_takes_43 ?_
          refine Wm.lsub (lv' := [(0, aO 40 0), (1, aI i), (2, aI ((n + 1 : Nat) : Int))]) ⟨rfl, rfl, rfl, trivial⟩ (ih (n + 1) _ (by omega) (fun k hk s => by rw [uI_ne (by omega)]; exact hU k hk s) hU2 (fun k hk => ?_) (fun k hk => by rw [uI_ne (by omega)]; exact hhi k (by omega)))
          by_cases hkn : k = n
          · rw [hkn, uI_eq, hce]
            first | (rw [if_pos (hcn.mp (by omega))]) | (rw [if_neg (fun z => by have := hcn.mpr z; omega)])
          · rw [uI_ne (by omega)]
            exact hlo k (by omega)
        · refine w_iconst C dX7_takes_29 ?_
          refine w_goto C dX7_takes_30 ?_
          refine w_iastN (j := n) C dX7_takes_39 (by first | assumption | exact Nat.zero_lt_one | exact Nat.zero_lt_two | exact Nat.one_lt_two) IA_58 (by omega) (by omega) ?_
          refine w_iinc C dX7_takes_40 rfl (by decide) ?_
          refine w_goto C dX7_takes_43 ?_
          refine Wm.lsub (lv' := [(0, aO 40 0), (1, aI i), (2, aI ((n + 1 : Nat) : Int))]) ⟨rfl, rfl, rfl, trivial⟩ (ih (n + 1) _ (by omega) (fun k hk s => by rw [uI_ne (by omega)]; exact hU k hk s) hU2 (fun k hk => ?_) (fun k hk => by rw [uI_ne (by omega)]; exact hhi k (by omega)))
          by_cases hkn : k = n
          · rw [hkn, uI_eq, hce]
            first | (rw [if_pos (hcn.mp (by omega))]) | (rw [if_neg (fun z => by have := hcn.mpr z; omega)])
          · rw [uI_ne (by omega)]
            exact hlo k (by omega)
  refine w_iconst C dX7_takes_0 ?_
  refine w_istore_n C dX7_takes_1 (by decide) ?_
  exact Wm.lsub (lv' := [(0, aO 40 0), (1, aI i), (2, aI ((0 : Nat) : Int))]) ⟨rfl, rfl, rfl, trivial⟩ (L2 720 0 M (by omega) (fun _ _ _ => rfl) rfl (fun k hk => absurd hk (Nat.not_lt_zero k)) (fun _ _ => rfl))
end Mo
