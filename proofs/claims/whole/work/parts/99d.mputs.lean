-- MODEL
/-! the model: laying again what has lain -/
section Mo
variable {l : Launch} {b0 : Nat → Prop} {ad : Ads} {M : Mem}
theorem c_X7_putsG (hl : l.stackTraces = false) {S : Sg} {P : List Pc} {nx : Nat} (hG0 : GInv S) (hl40 : P.length < 40) (hR : RepMo S P nx M) (j : Nat) (hj : j < nsS S) (t w : Nat) (ht : t < 4) (hw : w ≤ 1) (u v : Nat) (hP' : PInv S (P ++ [(nx, j, t, u, v, w)]) (nx + 1)) (hCel : CelM S j t w M) : Con l b0 yX7_puts cX7_puts 7 (some .int) 2 0 0 [aO 40 0, aI j, aI t, aI u, aI v, aI w] ad cntM M (fun r9 M' => RepMo S (P ++ [(nx, j, t, u, v, w)]) (nx + 1) M' ∧ PuM M M' ∧ r9 = some (aI nx)) noX := by
  have hI : GInv S ∧ True := ⟨hG0, trivial⟩
  have g6 := hI.1.2.2.2.2.2.1
  obtain ⟨p1, p2, p3, p4, p5, p6, p7, p8, p9⟩ := hI.1.2.2.2.2.2.2.2.2.2.1 j
  have q49 := (hR.2.2.1 j (by omega)).2.2.2.1
  have e4 := hR.1.2.2.2.1
  have e17 := hR.1.2.2.2.2.2.2.1
  have e18 := hR.1.2.2.2.2.2.2.2.1
  have hcs := cols12 hI.1
  have hmk := mkR_bd S hI.1 j t w
  have hb3 := b2_01 (gpS S j ≠ 0 ∧ 2 ≤ srS S)
  have hmem : (nx, j, t, u, v, w) ∈ P ++ [(nx, j, t, u, v, w)] := List.mem_append_right _ List.mem_cons_self
  obtain ⟨-, f1, -, -, -, -, z1, z2⟩ := hP'.1 _ hmem
  have f4 : 0 ≤ (u : Int) ∧ (u : Int) + hgt (dB S j) t w ≤ 60 := ⟨by omega, z1⟩
  have f4' : 0 ≤ (v : Int) := by omega
  have f5 : (v : Int) + wid (dB S j) t w ≤ colsS S := z2
  have hI' := hP'
  have hhb := hgt_bd (dB S j) t w
  have hrp : remP S (nx, j, t, u, v, w) = remS S ((u : Int) + mkR S j t w) := rfl
  have hlen := CelM.le (S := S) (j := j) (t := t) (w := w)
  have hclo : ∀ k, k < 720 → clo S (P ++ [(nx, j, t, u, v, w)]) k = if cv S (nx, j, t, u, v, w) (k / 12) (k % 12) = true then (nx : Int) else clo S P k := fun k hk => clo_app fun z => clo_no.mpr (fun q hq => by
    have hd := List.pairwise_append.mp hP'.2.1
    have h9 := (hd.2.2 q hq _ List.mem_cons_self).2 (k / 12) (k % 12)
    first | exact fun g => h9 ⟨g, z⟩ | (cases hx : cv S q (k / 12) (k % 12) with | false => rfl | true => exact absurd ⟨hx, z⟩ h9))
  have hcvA : ∀ k, cv S (nx, j, t, u, v, w) (k / 12) (k % 12) = true ↔ ∃ p ∈ cl (dB S j) t w, k = 12 * (u + p.1) + (v + p.2) := fun k => by
    rw [cv_iff]
    constructor
    · rintro ⟨r', c', h1, h2, h3⟩
      have h1' : k / 12 = u + r' := h1
      have h2' : k % 12 = v + c' := h2
      exact ⟨(r', c'), mem_cl.mpr h3, by show k = 12 * (u + r') + (v + c'); omega⟩
    · rintro ⟨p, hp, h⟩
      have hn := nc_lt (mem_cl.mp hp)
      exact ⟨p.1, p.2, by show k / 12 = u + p.1; omega, by show k % 12 = v + p.2; omega, mem_cl.mp hp⟩
  refine Con.of hl pl_X7 (Nat.le_of_ble_eq_true rfl) ?_
  intro D cA p e s m args below meth c C hr
  have K89 : ∀ M2 : Mem, (∀ k, ¬ (58 ≤ k ∧ k ≤ 60) → ∀ i, M2.1 k 0 i = M.1 k 0 i) → M2.2 = M.2 → (∀ k, k < 720 → M2.1 58 0 k = clo S (P ++ [(nx, j, t, u, v, w)]) k) → (∀ g, g < 4 → M2.1 60 0 g = ogS S (P ++ [(nx, j, t, u, v, w)]) g) → (∀ q, q ∈ P ++ [(nx, j, t, u, v, w)] → gpS S (pShp q) ≠ 0 → 2 ≤ srS S → M2.1 59 0 (gpS S (pShp q) - 1) = remP S q) → Wm p l e (rmd 2 0 0) s m args below meth c 7 D cA b0 0 0 (vx_MQ below (mQ D cA b0 ad cntM (fun r9 M' => RepMo S (P ++ [(nx, j, t, u, v, w)]) (nx + 1) M' ∧ PuM M M' ∧ r9 = some (aI nx))) (mX D cA b0 ad cntM noX) args s 0 0 b0) 89 [(0, aO 40 0), (1, aI j), (2, aI t), (3, aI u), (4, aI v), (5, aI w)] [] ad cntM M2 := by
    intro M2 hU hU2 h58 h60 h59
    have d17 : M2.1 40 0 17 = P.length := (hU 40 (by omega) 17).trans e17
    have d18 : M2.1 40 0 18 = nx := (hU 40 (by omega) 18).trans e18
    refine w_aload_n C dX7_puts_89 rfl ?_
    refine g_X7_46 C dX7_puts_90 (by first | assumption | exact Nat.zero_lt_one | exact Nat.zero_lt_two | exact Nat.one_lt_two) ?_
    refine w_aload_n C dX7_puts_93 rfl ?_
    refine g_X7_112 C dX7_puts_94 (by first | assumption | exact Nat.zero_lt_one | exact Nat.zero_lt_two | exact Nat.one_lt_two) ?_
    refine w_aload_n C dX7_puts_97 rfl ?_
    refine g_X7_115 C dX7_puts_98 (by first | assumption | exact Nat.zero_lt_one | exact Nat.zero_lt_two | exact Nat.one_lt_two) ?_
    refine Wm.top (v' := aI nx) (congrArg aI d18) ?_
    refine w_iastN (j := P.length) C dX7_puts_101 (by first | assumption | exact Nat.zero_lt_one | exact Nat.zero_lt_two | exact Nat.one_lt_two) IA_53 (by omega) (by omega) ?_
    refine w_aload_n C dX7_puts_102 rfl ?_
    refine g_X7_49 C dX7_puts_103 (by first | assumption | exact Nat.zero_lt_one | exact Nat.zero_lt_two | exact Nat.one_lt_two) ?_
    refine w_aload_n C dX7_puts_106 rfl ?_
    refine g_X7_112 C dX7_puts_107 (by first | assumption | exact Nat.zero_lt_one | exact Nat.zero_lt_two | exact Nat.one_lt_two) ?_
    refine w_iload_n C dX7_puts_110 rfl ?_
    refine w_iastN (j := P.length) C dX7_puts_111 (by first | assumption | exact Nat.zero_lt_one | exact Nat.zero_lt_two | exact Nat.one_lt_two) IA_54 d17 (by omega) ?_
    refine w_aload_n C dX7_puts_112 rfl ?_
    refine g_X7_52 C dX7_puts_113 (by first | assumption | exact Nat.zero_lt_one | exact Nat.zero_lt_two | exact Nat.one_lt_two) ?_
    refine w_aload_n C dX7_puts_116 rfl ?_
    refine g_X7_112 C dX7_puts_117 (by first | assumption | exact Nat.zero_lt_one | exact Nat.zero_lt_two | exact Nat.one_lt_two) ?_
    refine w_iload_n C dX7_puts_120 rfl ?_
    refine w_iastN (j := P.length) C dX7_puts_121 (by first | assumption | exact Nat.zero_lt_one | exact Nat.zero_lt_two | exact Nat.one_lt_two) IA_55 d17 (by omega) ?_
    refine w_aload_n C dX7_puts_122 rfl ?_
    refine g_X7_55 C dX7_puts_123 (by first | assumption | exact Nat.zero_lt_one | exact Nat.zero_lt_two | exact Nat.one_lt_two) ?_
    refine w_aload_n C dX7_puts_126 rfl ?_
    refine g_X7_112 C dX7_puts_127 (by first | assumption | exact Nat.zero_lt_one | exact Nat.zero_lt_two | exact Nat.one_lt_two) ?_
    refine w_iload C dX7_puts_130 rfl ?_
    refine w_iastN (j := P.length) C dX7_puts_132 (by first | assumption | exact Nat.zero_lt_one | exact Nat.zero_lt_two | exact Nat.one_lt_two) IA_56 d17 (by omega) ?_
    refine w_aload_n C dX7_puts_133 rfl ?_
    refine g_X7_58 C dX7_puts_134 (by first | assumption | exact Nat.zero_lt_one | exact Nat.zero_lt_two | exact Nat.one_lt_two) ?_
    refine w_aload_n C dX7_puts_137 rfl ?_
    refine g_X7_112 C dX7_puts_138 (by first | assumption | exact Nat.zero_lt_one | exact Nat.zero_lt_two | exact Nat.one_lt_two) ?_
    refine w_iload_n C dX7_puts_141 rfl ?_
    refine w_iastN (j := P.length) C dX7_puts_142 (by first | assumption | exact Nat.zero_lt_one | exact Nat.zero_lt_two | exact Nat.one_lt_two) IA_57 d17 (by omega) ?_
    refine w_aload_n C dX7_puts_143 rfl ?_
    refine g_X7_61 C dX7_puts_144 (by first | assumption | exact Nat.zero_lt_one | exact Nat.zero_lt_two | exact Nat.one_lt_two) ?_
    refine w_aload_n C dX7_puts_147 rfl ?_
    refine g_X7_112 C dX7_puts_148 (by first | assumption | exact Nat.zero_lt_one | exact Nat.zero_lt_two | exact Nat.one_lt_two) ?_
    refine w_iload C dX7_puts_151 rfl ?_
    refine w_zastN (j := P.length) C dX7_puts_153 (by first | assumption | exact Nat.zero_lt_one | exact Nat.zero_lt_two | exact Nat.one_lt_two) ZA_45 d17 (by omega) (by omega) ?_
    refine w_aload_n C dX7_puts_154 rfl ?_
    refine w_dup C dX7_puts_155 rfl ?_
    refine g_X7_112 C dX7_puts_156 (by first | assumption | exact Nat.zero_lt_one | exact Nat.zero_lt_two | exact Nat.one_lt_two) ?_
    refine w_iconst C dX7_puts_159 ?_
    refine w_iadd C dX7_puts_160 ?_
    refine p_X7_112 C dX7_puts_161 (by first | assumption | exact Nat.zero_lt_one | exact Nat.zero_lt_two | exact Nat.one_lt_two) ?_
    refine w_aload_n C dX7_puts_164 rfl ?_
    refine w_dup C dX7_puts_165 rfl ?_
    refine g_X7_115 C dX7_puts_166 (by first | assumption | exact Nat.zero_lt_one | exact Nat.zero_lt_two | exact Nat.one_lt_two) ?_
    refine w_iconst C dX7_puts_169 ?_
    refine w_iadd C dX7_puts_170 ?_
    refine p_X7_115 C dX7_puts_171 (by first | assumption | exact Nat.zero_lt_one | exact Nat.zero_lt_two | exact Nat.one_lt_two) ?_
    refine w_aload_n C dX7_puts_174 rfl ?_
    refine g_X7_115 C dX7_puts_175 (by first | assumption | exact Nat.zero_lt_one | exact Nat.zero_lt_two | exact Nat.one_lt_two) ?_
    refine w_iconst C dX7_puts_178 ?_
    refine w_isub C dX7_puts_179 ?_
    refine w_iret C hr dX7_puts_180 rfl (by
        have hp0 : PuM M M2 := ⟨fun s _ _ => hU 40 (by omega) s, fun k _ h i => hU k (by omega) i, hU2⟩
        have hMM : ∀ i q, P[i]? = some q → RepPm q i M2 := fun i q hq => by
          obtain ⟨a1, a2, a3, a4, a5, a6⟩ := hR.2.2.2.2.1.1 i q hq
          exact ⟨(hU 53 (by omega) i).trans a1, (hU 54 (by omega) i).trans a2, (hU 55 (by omega) i).trans a3, (hU 56 (by omega) i).trans a4, (hU 57 (by omega) i).trans a5, (hU 45 (by omega) i).trans a6⟩
        have hpu : PuM M (uI (uI (uI (uI (uI (uI M2 53 0 P.length nx) 54 0 P.length j) 55 0 P.length u) 56 0 P.length v) 57 0 P.length t) 45 0 P.length w) := (((((hp0.uI (by omega)).uI (by omega)).uI (by omega)).uI (by omega)).uI (by omega)).uI (by omega)
        have hmm := RepMM.put (M' := uI (uI (uI (uI (uI (uI M2 53 0 P.length nx) 54 0 P.length j) 55 0 P.length u) 56 0 P.length v) 57 0 P.length t) 45 0 P.length w) hl40 hMM h58 h60 h59 rfl
        have hp9 := (hpu.uI (k := 40) (s := 17) (v := M2.1 40 0 17 + 1) (by omega)).uI (k := 40) (s := 18) (v := M2.1 40 0 18 + 1) (by omega)
        refine ⟨hp9.mo hR ?_ ?_ (hmm.fr fun k hk i => ?_), hp9, congrArg (fun z : Int => some (aI z)) (show M2.1 40 0 18 + 1 - 1 = (nx : Int) by omega)⟩
        · rw [uI_ne (by omega), uI_eq, d17, List.length_append]
          rfl
        · rw [uI_eq, d18]
          rfl
        · rw [uI_ne (by omega), uI_ne (by omega)]) (by decide) (by decide)
  have L : ∀ (d n : Nat) (A B : List (Nat × Nat)) (M1 : Mem), cl (dB S j) t w = A ++ B → A.length = n → B.length = d → (∀ k, k ≠ 58 → ∀ i, M1.1 k 0 i = M.1 k 0 i) → M1.2 = M.2 → (∀ k, k < 720 → ((∃ p ∈ A, k = 12 * (u + p.1) + (v + p.2)) → M1.1 58 0 k = nx) ∧ ((¬ ∃ p ∈ A, k = 12 * (u + p.1) + (v + p.2)) → M1.1 58 0 k = clo S P k)) → Wm p l e (rmd 2 0 0) s m args below meth c 7 D cA b0 0 0 (vx_MQ below (mQ D cA b0 ad cntM (fun r9 M' => RepMo S (P ++ [(nx, j, t, u, v, w)]) (nx + 1) M' ∧ PuM M M' ∧ r9 = some (aI nx))) (mX D cA b0 ad cntM noX) args s 0 0 b0) 3 [(0, aO 40 0), (1, aI j), (2, aI t), (3, aI u), (4, aI v), (5, aI w), (6, aI n)] [] ad cntM M1 := by
    intro d
    induction d with
    | zero =>
      intro n A B M1 hAB hA hB hU hU2 h58
      have hn : (cl (dB S j) t w).length = n := by rw [hAB, List.length_append, hA, hB]; rfl
      have hCM := (hU 40 (by decide) 33).trans hCel.1
      have hA9 : cl (dB S j) t w = A := by rw [hAB, List.length_eq_zero_iff.mp hB, List.append_nil]
      have h58' : ∀ k, k < 720 → M1.1 58 0 k = clo S (P ++ [(nx, j, t, u, v, w)]) k := fun k hk => by
        rw [hclo k hk]
        by_cases h : cv S (nx, j, t, u, v, w) (k / 12) (k % 12) = true
        · rw [if_pos h]
          exact (h58 k hk).1 (by rw [← hA9]; exact (hcvA k).mp h)
        · rw [if_neg h]
          exact (h58 k hk).2 (by rw [← hA9]; exact fun q => h ((hcvA k).mpr q))
      have c49 := (hU 49 (by decide) j).trans q49
      have c4 := (hU 40 (by decide) 4).trans e4
      have c36 := (hU 40 (by decide) 36).trans hCel.2.2
      have o60 := hR.2.2.2.2.1.2.2.1
      have o59 := hR.2.2.2.2.1.2.2.2
      refine w_iload C dX7_puts_3 rfl ?_
      refine w_aload_n C dX7_puts_5 rfl ?_
      refine g_X7_152 C dX7_puts_6 (by first | assumption | exact Nat.zero_lt_one | exact Nat.zero_lt_two | exact Nat.one_lt_two) ?_
      refine w_icmp_ge C dX7_puts_9 (by omega) (by omega) (fun h9 => ?_) (fun h9 => ?_)
      · refine w_aload_n C dX7_puts_50 rfl ?_
        refine w_iload_n C dX7_puts_51 rfl ?_
        refine w_callV C dX7_puts_52 (c_X7_isMarkedF hl hI.1 j (by omega) c49 c4) mX7_isMarked vX7_isMarked lk_X7_183 (by first | assumption | exact Nat.zero_lt_one | exact Nat.zero_lt_two | exact Nat.one_lt_two) rfl rfl rfl rfl ⟨by first | decide | (simp only [rmd]; omega), by first | decide | (simp only [rmd]; omega), by first | decide | (simp only [rmd]; omega), by first | decide | (simp only [rmd]; omega)⟩ (Nat.le_of_ble_eq_true rfl) (fun _ _ h => h.elim) ⟨by decide, by decide⟩ (fun r_ M_ q52 => ?_)
        obtain ⟨rfl, rfl⟩ := q52
        refine w_if_eq C dX7_puts_55 (by omega) (fun h55 => ?_) (fun h55 => ?_)
        · have y2 := b2_is0 h55
          first | (refine Wm.lsub (lv' := [(0, aO 40 0), (1, aI j), (2, aI t), (3, aI u), (4, aI v), (5, aI w)]) ⟨rfl, rfl, rfl, rfl, rfl, rfl, trivial⟩ (K89 _ (fun k hk i => hU k (by omega) i) hU2 h58' (fun g hg => ?_) (fun q hq h1 h2 => ?_)); (rw [hU 60 (by decide) g, o60 g hg]; unfold ogS; rw [inGr_app]; by_cases hs : 2 ≤ srS S; (rw [if_pos hs, if_pos hs, if_neg (by show ¬ gpS S j = g + 1; omega)]; rfl); (rw [if_neg hs, if_neg hs])); (rcases List.mem_append.mp hq with z | z; (rw [hU 59 (by decide)]; exact o59 q z h1 h2); (rw [List.mem_singleton.mp z] at h1; exact absurd ⟨h1, h2⟩ y2))) | (refine Wm.lsub (lv' := [(0, aO 40 0), (1, aI j), (2, aI t), (3, aI u), (4, aI v), (5, aI w)]) ⟨rfl, rfl, rfl, rfl, rfl, rfl, trivial⟩ (K89 _ (fun k hk i => by rw [uI_ne (by omega), uI_ne (by omega)]; exact hU k (by omega) i) hU2 (fun k hk => by rw [uI_ne (by omega), uI_ne (by omega)]; exact h58' k hk) (fun g hg => ?_) (fun q hq h1 h2 => ?_)); (unfold ogS; rw [inGr_app, if_pos y2.2]; by_cases hgg : g = gpS S j - 1; (rw [hgg, uI_eq, hU 60 (by decide), o60 _ (by omega)]; unfold ogS; rw [if_pos y2.2, if_pos (show gpS S j = gpS S j - 1 + 1 by omega)]; rfl); (rw [uI_ne (by omega), uI_ne (by omega), hU 60 (by decide), o60 g hg, if_neg (show ¬ gpS S j = g + 1 by omega)]; unfold ogS; rw [if_pos y2.2]; rfl)); (rw [uI_ne (by omega)]; by_cases hgg : gpS S (pShp q) = gpS S j; (rw [hgg, uI_eq]; exact hI'.2.2 _ (List.mem_append_right _ List.mem_cons_self) q hq hgg.symm (by show gpS S j ≠ 0; omega) h2); (rcases List.mem_append.mp hq with z | z; (rw [uI_ne (by omega), hU 59 (by decide)]; exact o59 q z h1 h2); (rw [List.mem_singleton.mp z] at hgg; exact absurd rfl hgg))))
        · have y2 := b2_n0 h55
          refine w_aload_n C dX7_puts_58 rfl ?_
          refine g_X7_67 C dX7_puts_59 (by first | assumption | exact Nat.zero_lt_one | exact Nat.zero_lt_two | exact Nat.one_lt_two) ?_
          refine w_aload_n C dX7_puts_62 rfl ?_
          refine g_X7_31 C dX7_puts_63 (by first | assumption | exact Nat.zero_lt_one | exact Nat.zero_lt_two | exact Nat.one_lt_two) ?_
          refine w_iload_n C dX7_puts_66 rfl ?_
          refine w_ialdN (j := j) C dX7_puts_67 (by first | assumption | exact Nat.zero_lt_one | exact Nat.zero_lt_two | exact Nat.one_lt_two) IA_49 (by omega) (by omega) ?_
          rw [c49]
          refine w_aload_n C dX7_puts_68 rfl ?_
          refine w_iload_n C dX7_puts_69 rfl ?_
          refine w_callV C dX7_puts_70 (c_X7_remainder hl hI.1 c4 y2.2 (mkR S j t w) hmk c36 (u : Int) (by omega)) mX7_remainder vX7_remainder lk_X7_186 (by first | assumption | exact Nat.zero_lt_one | exact Nat.zero_lt_two | exact Nat.one_lt_two) rfl rfl rfl rfl ⟨by first | decide | (simp only [rmd]; omega), by first | decide | (simp only [rmd]; omega), by first | decide | (simp only [rmd]; omega), by first | decide | (simp only [rmd]; omega)⟩ (Nat.le_of_ble_eq_true rfl) (fun _ _ h => h.elim) ⟨by decide, by decide⟩ (fun r_ M_ q70 => ?_)
          obtain ⟨rfl, rfl⟩ := q70
          refine w_iastN (j := gpS S j - 1) C dX7_puts_73 (by first | assumption | exact Nat.zero_lt_one | exact Nat.zero_lt_two | exact Nat.one_lt_two) IA_59 (by omega) (by omega) ?_
          refine w_aload_n C dX7_puts_74 rfl ?_
          refine g_X7_70 C dX7_puts_75 (by first | assumption | exact Nat.zero_lt_one | exact Nat.zero_lt_two | exact Nat.one_lt_two) ?_
          refine w_aload_n C dX7_puts_78 rfl ?_
          refine g_X7_31 C dX7_puts_79 (by first | assumption | exact Nat.zero_lt_one | exact Nat.zero_lt_two | exact Nat.one_lt_two) ?_
          refine w_iload_n C dX7_puts_82 rfl ?_
          refine w_ialdN (j := j) C dX7_puts_83 (by first | assumption | exact Nat.zero_lt_one | exact Nat.zero_lt_two | exact Nat.one_lt_two) IA_49 (by omega) (by omega) ?_
          rw [uI_ne (by omega), c49]
          refine w_dup2 C dX7_puts_84 rfl rfl ?_
          refine w_ialdN (j := gpS S j - 1) C dX7_puts_85 (by first | assumption | exact Nat.zero_lt_one | exact Nat.zero_lt_two | exact Nat.one_lt_two) IA_60 (by omega) (by omega) ?_
          rw [uI_ne (by omega)]
          refine w_iconst C dX7_puts_86 ?_
          refine w_iadd C dX7_puts_87 ?_
          refine w_iastN (j := gpS S j - 1) C dX7_puts_88 (by first | assumption | exact Nat.zero_lt_one | exact Nat.zero_lt_two | exact Nat.one_lt_two) IA_60 (by omega) (by omega) ?_
          first | (refine Wm.lsub (lv' := [(0, aO 40 0), (1, aI j), (2, aI t), (3, aI u), (4, aI v), (5, aI w)]) ⟨rfl, rfl, rfl, rfl, rfl, rfl, trivial⟩ (K89 _ (fun k hk i => hU k (by omega) i) hU2 h58' (fun g hg => ?_) (fun q hq h1 h2 => ?_)); (rw [hU 60 (by decide) g, o60 g hg]; unfold ogS; rw [inGr_app]; by_cases hs : 2 ≤ srS S; (rw [if_pos hs, if_pos hs, if_neg (by show ¬ gpS S j = g + 1; omega)]; rfl); (rw [if_neg hs, if_neg hs])); (rcases List.mem_append.mp hq with z | z; (rw [hU 59 (by decide)]; exact o59 q z h1 h2); (rw [List.mem_singleton.mp z] at h1; exact absurd ⟨h1, h2⟩ y2))) | (refine Wm.lsub (lv' := [(0, aO 40 0), (1, aI j), (2, aI t), (3, aI u), (4, aI v), (5, aI w)]) ⟨rfl, rfl, rfl, rfl, rfl, rfl, trivial⟩ (K89 _ (fun k hk i => by rw [uI_ne (by omega), uI_ne (by omega)]; exact hU k (by omega) i) hU2 (fun k hk => by rw [uI_ne (by omega), uI_ne (by omega)]; exact h58' k hk) (fun g hg => ?_) (fun q hq h1 h2 => ?_)); (unfold ogS; rw [inGr_app, if_pos y2.2]; by_cases hgg : g = gpS S j - 1; (rw [hgg, uI_eq, hU 60 (by decide), o60 _ (by omega)]; unfold ogS; rw [if_pos y2.2, if_pos (show gpS S j = gpS S j - 1 + 1 by omega)]; rfl); (rw [uI_ne (by omega), uI_ne (by omega), hU 60 (by decide), o60 g hg, if_neg (show ¬ gpS S j = g + 1 by omega)]; unfold ogS; rw [if_pos y2.2]; rfl)); (rw [uI_ne (by omega)]; by_cases hgg : gpS S (pShp q) = gpS S j; (rw [hgg, uI_eq]; exact hI'.2.2 _ (List.mem_append_right _ List.mem_cons_self) q hq hgg.symm (by show gpS S j ≠ 0; omega) h2); (rcases List.mem_append.mp hq with z | z; (rw [uI_ne (by omega), hU 59 (by decide)]; exact o59 q z h1 h2); (rw [List.mem_singleton.mp z] at hgg; exact absurd rfl hgg))))
      · omega
    | succ d ih =>
      intro n A B M1 hAB hA hB hU hU2 h58
      obtain ⟨q, B', rfl⟩ : ∃ q B', B = q :: B' := by
        cases B with
        | nil => cases hB
        | cons q B' => exact ⟨q, B', rfl⟩
      have hn : (cl (dB S j) t w).length = n + (d + 1) := by rw [hAB, List.length_append, hA, hB]
      have hq : (cl (dB S j) t w)[n]? = some q := by rw [hAB, ← hA]; simp
      have hqc := nc_lt (mem_cl.mp (List.mem_of_getElem? hq))
      have hCM := (hU 40 (by decide) 33).trans hCel.1
      have t1 := (hU 63 (by decide) n).trans (hCel.2.1 n q hq).1
      have t2 := (hU 64 (by decide) n).trans (hCel.2.1 n q hq).2
      have d18 := (hU 40 (by decide) 18).trans e18
      refine w_iload C dX7_puts_3 rfl ?_
      refine w_aload_n C dX7_puts_5 rfl ?_
      refine g_X7_152 C dX7_puts_6 (by first | assumption | exact Nat.zero_lt_one | exact Nat.zero_lt_two | exact Nat.one_lt_two) ?_
      refine w_icmp_ge C dX7_puts_9 (by omega) (by omega) (fun h9 => ?_) (fun h9 => ?_)
      · omega
      · refine w_aload_n C dX7_puts_12 rfl ?_
        refine g_X7_64 C dX7_puts_13 (by first | assumption | exact Nat.zero_lt_one | exact Nat.zero_lt_two | exact Nat.one_lt_two) ?_
        refine w_bipush (v := 12) C dX7_puts_16 rfl ?_
        refine w_iload_n C dX7_puts_18 rfl ?_
        refine w_aload_n C dX7_puts_19 rfl ?_
        refine g_X7_79 C dX7_puts_20 (by first | assumption | exact Nat.zero_lt_one | exact Nat.zero_lt_two | exact Nat.one_lt_two) ?_
        refine w_iload C dX7_puts_23 rfl ?_
        refine w_ialdN (j := n) C dX7_puts_25 (by first | assumption | exact Nat.zero_lt_one | exact Nat.zero_lt_two | exact Nat.one_lt_two) IA_63 (by omega) (by omega) ?_
        rw [t1]
        refine w_iadd C dX7_puts_26 ?_
        refine w_imul C dX7_puts_27 ?_
        refine w_iload C dX7_puts_28 rfl ?_
        refine w_iadd C dX7_puts_30 ?_
        refine w_aload_n C dX7_puts_31 rfl ?_
        refine g_X7_82 C dX7_puts_32 (by first | assumption | exact Nat.zero_lt_one | exact Nat.zero_lt_two | exact Nat.one_lt_two) ?_
        refine w_iload C dX7_puts_35 rfl ?_
        refine w_ialdN (j := n) C dX7_puts_37 (by first | assumption | exact Nat.zero_lt_one | exact Nat.zero_lt_two | exact Nat.one_lt_two) IA_64 (by omega) (by omega) ?_
        rw [t2]
        refine w_iadd C dX7_puts_38 ?_
        refine w_aload_n C dX7_puts_39 rfl ?_
        refine g_X7_115 C dX7_puts_40 (by first | assumption | exact Nat.zero_lt_one | exact Nat.zero_lt_two | exact Nat.one_lt_two) ?_
        rw [d18]
        refine w_iastN (j := 12 * (u + q.1) + (v + q.2)) C dX7_puts_43 (by first | assumption | exact Nat.zero_lt_one | exact Nat.zero_lt_two | exact Nat.one_lt_two) IA_58 (by omega) (by omega) ?_
        refine w_iinc C dX7_puts_44 rfl (by decide) ?_
        refine w_goto C dX7_puts_47 ?_
        refine Wm.lsub (lv' := [(0, aO 40 0), (1, aI j), (2, aI t), (3, aI u), (4, aI v), (5, aI w), (6, aI ((n + 1 : Nat) : Int))]) ⟨rfl, rfl, rfl, rfl, rfl, rfl, rfl, trivial⟩ (ih (n + 1) (A ++ [q]) B' _ (by rw [hAB]; simp) (by simp [hA]) (by simpa using hB) (fun k hk i => by rw [uI_ne (by omega)]; exact hU k hk i) hU2 (fun k hk => ⟨?_, ?_⟩))
        · rintro ⟨p, hp, rfl⟩
          rcases List.mem_append.mp hp with z | z
          · by_cases hz : 12 * (u + p.1) + (v + p.2) = 12 * (u + q.1) + (v + q.2)
            · rw [hz, uI_eq]
            · rw [uI_ne (by omega)]
              exact (h58 _ hk).1 ⟨p, z, rfl⟩
          · rw [List.mem_singleton.mp z, uI_eq]
        · intro hno
          rw [uI_ne (fun z => hno ⟨q, List.mem_append_right _ List.mem_cons_self, z.2.2⟩)]
          exact (h58 k hk).2 (fun z => hno (by obtain ⟨p, hp, e⟩ := z; exact ⟨p, List.mem_append_left _ hp, e⟩))
  refine w_iconst C dX7_puts_0 ?_
  refine w_istore C dX7_puts_1 (by decide) ?_
  exact Wm.lsub (lv' := [(0, aO 40 0), (1, aI j), (2, aI t), (3, aI u), (4, aI v), (5, aI w), (6, aI ((0 : Nat) : Int))]) ⟨rfl, rfl, rfl, rfl, rfl, rfl, rfl, trivial⟩ (L _ 0 [] _ M rfl rfl rfl (fun _ _ _ => rfl) rfl (fun k hk => ⟨fun ⟨p, hp, _⟩ => absurd hp List.not_mem_nil, fun _ => hR.2.2.2.2.1.2.1 k hk⟩))
end Mo
