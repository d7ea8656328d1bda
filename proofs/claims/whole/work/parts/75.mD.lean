-- MODEL
/-! the model: reasonFor, lay, nest -/
theorem rs_in {S : Sg} {P : List Pc} {j t w : Nat} {row col : Int} (h1 : szS S j ≠ 0) (h2 : mayT S j t) (h3 : ¬ (w = 1 ∧ (paS S j = 0 ∨ fdS S = 1))) : reasonS S P j t w row col = if offS S j t w row col then 111 else if anyC (dB S j) t w (fun r c => badS S (row.toNat + r) (col.toNat + c)) then 102 else if anyC (dB S j) t w (fun r c => decide (clo S P (12 * (row.toNat + r) + (col.toNat + c)) ≠ -1)) then 112 else if strp S P j t w row then 115 else 45 := by
  unfold reasonS
  rw [if_neg h1, if_neg (fun q => q h2), if_neg h3]
theorem strp_ph {S : Sg} {P : List Pc} {nx j t w : Nat} {row : Int} (hP : PInv S P nx) (hg : gpS S j ≠ 0) (h2 : 2 ≤ srS S) {q : Pc} (hq : q ∈ P) (hgq : gpS S (pShp q) = gpS S j) : strp S P j t w row = true ↔ remP S q ≠ remS S (row + mkR S j t w) := by
  rw [strp_iff]
  constructor
  · rintro ⟨-, q', hq', h3, h4⟩
    rw [hP.2.2 q hq q' hq' (hgq.trans h3.symm) (by rw [hgq]; exact hg) h2]
    exact h4
  · intro h
    exact ⟨hg, q, hq, hgq, h⟩
theorem strp_no {S : Sg} {P : List Pc} {j t w : Nat} {row : Int} (h : ¬ (gpS S j ≠ 0 ∧ 2 ≤ srS S)) : ¬ strp S P j t w row = true := by
  intro q
  unfold strp at q
  rw [Bool.and_eq_true, Bool.and_eq_true, decide_eq_true_iff, decide_eq_true_iff] at q
  exact h q.1
theorem strp_og {S : Sg} {P : List Pc} {j t w : Nat} {row : Int} (h : inGr S P (gpS S j) = 0) : ¬ strp S P j t w row = true := by
  intro q
  obtain ⟨-, q', hq', h3, -⟩ := strp_iff.mp q
  unfold inGr at h
  exact absurd (beq_iff_eq.mpr h3) (List.countP_eq_zero.mp h q' hq')
theorem inGr_ex {S : Sg} {P : List Pc} {g : Nat} (h : inGr S P g ≠ 0) : ∃ q ∈ P, gpS S (pShp q) = g := by
  unfold inGr at h
  obtain ⟨q, hq, h2⟩ := List.countP_pos_iff.mp (Nat.pos_of_ne_zero h)
  exact ⟨q, hq, beq_iff_eq.mp h2⟩
theorem reason_bd (S : Sg) (P : List Pc) (j t w : Nat) (row col : Int) : 45 ≤ reasonS S P j t w row col ∧ reasonS S P j t w row col ≤ 116 := by
  unfold reasonS
  (repeat' split) <;> omega
theorem wst_3 (S : Sg) (P : List Pc) (j t w : Nat) (a b : Int) : wstS S P j t w a b ≤ 3 := by
  unfold wstS
  split
  · exact Nat.le_refl _
  · exact wsC_3 _ _ _ _ _
theorem rs_0 {S : Sg} {P : List Pc} {j t w : Nat} {a b : Int} (q : szS S j = 0) : reasonS S P j t w a b = 101 := by
  unfold reasonS
  rw [if_pos q]
theorem rs_1 {S : Sg} {P : List Pc} {j t w : Nat} {a b : Int} (q : szS S j ≠ 0) (z : ¬ mayT S j t) : reasonS S P j t w a b = 116 := by
  unfold reasonS
  rw [if_neg q, if_pos z]
theorem rs_2 {S : Sg} {P : List Pc} {j t w : Nat} {a b : Int} (q : szS S j ≠ 0) (z : mayT S j t) (y : w = 1 ∧ (paS S j = 0 ∨ fdS S = 1)) : reasonS S P j t w a b = 109 := by
  unfold reasonS
  rw [if_neg q, if_neg (fun x => x z), if_pos y]
theorem rs_3 {S : Sg} {P : List Pc} {j t w : Nat} {a b : Int} (hC : InvC S) (z1 : szS S j ≠ 0) (z2 : mayT S j t) (z3 : ¬ (w = 1 ∧ (paS S j = 0 ∨ fdS S = 1))) : (wstS S P j t w a b = 3 → reasonS S P j t w a b = 111) ∧ (wstS S P j t w a b = 2 → reasonS S P j t w a b = 102) ∧ (wstS S P j t w a b = 1 → reasonS S P j t w a b = 112) ∧ (wstS S P j t w a b = 0 → reasonS S P j t w a b = if strp S P j t w a = true then 115 else 45) := by
  have hex := hC.ex z1
  rw [rs_in z1 z2 z3]
  by_cases ho : offS S j t w a b
  · have h3 := (wst_off (P := P) hex).mpr ho
    rw [if_pos ho]
    exact ⟨fun _ => rfl, fun q => by omega, fun q => by omega, fun q => by omega⟩
  · have h3 : wstS S P j t w a b ≠ 3 := fun q => ho ((wst_off hex).mp q)
    obtain ⟨i1, i2⟩ := wst_in (P := P) hex ho
    rw [if_neg ho]
    refine ⟨fun q => absurd q h3, fun q => ?_, fun q => ?_, fun q => ?_⟩
    · rw [if_pos (i1.mp (by omega))]
    · have n1 : ¬ anyC (dB S j) t w (fun r c => badS S (a.toNat + r) (b.toNat + c)) = true := fun y => by have := i1.mpr y; omega
      rw [if_neg n1, if_pos (by rcases i2.mp (by omega) with y | y; exact absurd y n1; exact y)]
    · have n1 : ¬ anyC (dB S j) t w (fun r c => badS S (a.toNat + r) (b.toNat + c)) = true := fun y => by have := i1.mpr y; omega
      have n2 : ¬ anyC (dB S j) t w (fun r c => decide (clo S P (12 * (a.toNat + r) + (b.toNat + c)) ≠ -1)) = true := fun y => by have := i2.mpr (Or.inr y); omega
      rw [if_neg n1, if_neg n2]
def RsC (S : Sg) (P : List Pc) (j t w : Nat) (a b : Int) (M : Mem) : Prop := reasonS S P j t w a b = 45 → CelM S j t w M
theorem RsC.no {S : Sg} {P : List Pc} {j t w : Nat} {a b z : Int} {M : Mem} (h : reasonS S P j t w a b = z) (hz : z ≠ 45) : RsC S P j t w a b M := fun q => absurd (h.symm.trans q) hz
theorem rs_e {S : Sg} {P : List Pc} {j t w : Nat} {a b z : Int} (h : reasonS S P j t w a b = z) : some (aI z) = some (aI (reasonS S P j t w a b)) := by rw [h]
theorem wst_rg {S : Sg} {P : List Pc} {j t w : Nat} {a b : Int} (h : wstS S P j t w a b = 0) : -100000 ≤ a ∧ a ≤ 100000 := by
  unfold wstS at h
  split at h <;> omega
section Mo
variable {l : Launch} {b0 : Nat → Prop} {ad : Ads} {M : Mem}
theorem c_X7_reasonFor (hl : l.stackTraces = false) {S : Sg} {P : List Pc} {nx : Nat} (hI : Inv S P nx) (hC : InvC S) (hnx : nx < 1000000) (hR : RepMo S P nx M) (j : Nat) (hj : j < nsS S) (t w : Nat) (ht : t < 4) (hw : w ≤ 1) (a b : Int) (ha : -2147483648 ≤ a ∧ a ≤ 2147483647) (hb : -2147483648 ≤ b ∧ b ≤ 2147483647) : Con l b0 yX7_reasonFor cX7_reasonFor 8 (some .char) 3 0 0 [aO 40 0, aI j, aI t, aI a, aI b, aI w] ad cntM M (fun r9 M' => TrM M M' ∧ RsC S P j t w a b M' ∧ r9 = some (aI (reasonS S P j t w a b))) noX := by
  have g6 := hI.1.2.2.2.2.2.1
  obtain ⟨p1, p2, p3, p4, p5, p6, p7, p8, p9⟩ := hI.1.2.2.2.2.2.2.2.2.2.1 j
  obtain ⟨q1, q2, q3, q4, q5, q6, q7, q8, q9⟩ := hR.2.2.1 j (by omega)
  have e3 := hR.1.2.2.1
  have hfd := hI.1.2.2.1
  have b1 := b2_01 (mayT S j t)
  have b3 := b2_01 (gpS S j ≠ 0 ∧ 2 ≤ srS S)
  have hmk := mkR_bd S hI.1 j t w
  have hP := hI.2.2.1
  have hw3 := wst_3 S P j t w a b
  refine Con.of hl pl_X7 (Nat.le_of_ble_eq_true rfl) ?_
  intro D cA p e s m args below meth c C hr
  refine w_aload_n C dX7_reasonFor_0 rfl ?_
  refine g_X7_27 C dX7_reasonFor_1 (by first | assumption | exact Nat.zero_lt_one | exact Nat.zero_lt_two | exact Nat.one_lt_two) ?_
  refine w_iload_n C dX7_reasonFor_4 rfl ?_
  refine w_ialdN (j := j) C dX7_reasonFor_5 (by first | assumption | exact Nat.zero_lt_one | exact Nat.zero_lt_two | exact Nat.one_lt_two) IA_48 (by omega) (by omega) ?_
  rw [q3]
  refine w_if_eq C dX7_reasonFor_6 (by omega) (fun h6 => ?_) (fun h6 => ?_)
  · refine w_aload_n C dX7_reasonFor_18 rfl ?_
    refine g_X7_27 C dX7_reasonFor_19 (by first | assumption | exact Nat.zero_lt_one | exact Nat.zero_lt_two | exact Nat.one_lt_two) ?_
    refine w_iload_n C dX7_reasonFor_22 rfl ?_
    refine w_ialdN (j := j) C dX7_reasonFor_23 (by first | assumption | exact Nat.zero_lt_one | exact Nat.zero_lt_two | exact Nat.one_lt_two) IA_48 (by omega) (by omega) ?_
    rw [q3]
    refine w_if_ne C dX7_reasonFor_24 (by omega) (fun h24 => ?_) (fun h24 => ?_)
    · refine w_bipush (v := 116) C dX7_reasonFor_32 rfl ?_
      refine w_iret C hr dX7_reasonFor_34 (narrow_c (by omega)).1 (by first | exact ⟨TrM.rf, RsC.no (rs_0 (by omega)) (by decide), rs_e (rs_0 (by omega))⟩ | exact ⟨TrM.rf, RsC.no (rs_1 (by omega) y1) (by decide), rs_e (rs_1 (by omega) y1)⟩ | (exfalso; omega)) (by decide) (by decide)
    · refine w_bipush (v := 101) C dX7_reasonFor_27 rfl ?_
      refine w_goto C dX7_reasonFor_29 ?_
      refine w_iret C hr dX7_reasonFor_34 (narrow_c (by omega)).1 (by first | exact ⟨TrM.rf, RsC.no (rs_0 (by omega)) (by decide), rs_e (rs_0 (by omega))⟩ | exact ⟨TrM.rf, RsC.no (rs_1 (by omega) y1) (by decide), rs_e (rs_1 (by omega) y1)⟩ | (exfalso; omega)) (by decide) (by decide)
  · refine w_aload_n C dX7_reasonFor_9 rfl ?_
    refine w_iload_n C dX7_reasonFor_10 rfl ?_
    refine w_iload_n C dX7_reasonFor_11 rfl ?_
    refine w_callV C dX7_reasonFor_12 (c_X7_mayTurn hl hI.1 hR j (by omega) t ht) mX7_mayTurn vX7_mayTurn lk_X7_172 (by first | assumption | exact Nat.zero_lt_one | exact Nat.zero_lt_two | exact Nat.one_lt_two) rfl rfl rfl rfl ⟨by decide, by decide, by decide, by decide⟩ (Nat.le_of_ble_eq_true rfl) (fun _ _ h => h.elim) ⟨by decide, by decide⟩ (fun r_ M_ q12 => ?_)
    obtain ⟨rfl, rfl⟩ := q12
    refine w_if_ne C dX7_reasonFor_15 (by omega) (fun h15 => ?_) (fun h15 => ?_)
    · have y1 : mayT S j t := b2_n0 h15
      refine w_iload C dX7_reasonFor_35 rfl ?_
      refine w_if_eq C dX7_reasonFor_37 (by omega) (fun h37 => ?_) (fun h37 => ?_)
      · refine w_aload_n C dX7_reasonFor_59 rfl ?_
        refine w_iload_n C dX7_reasonFor_60 rfl ?_
        refine w_iload_n C dX7_reasonFor_61 rfl ?_
        refine w_iload C dX7_reasonFor_62 rfl ?_
        refine w_callV C dX7_reasonFor_64 (c_X7_turns hl hI.1 hR j (by omega) t w ht hw) mX7_turns vX7_turns lk_X7_175 (by first | assumption | exact Nat.zero_lt_one | exact Nat.zero_lt_two | exact Nat.one_lt_two) rfl rfl rfl rfl ⟨by decide, by decide, by decide, by decide⟩ (Nat.le_of_ble_eq_true rfl) (fun _ _ h => h.elim) ⟨by decide, by decide⟩ (fun r_ M2 q64 => ?_)
        obtain ⟨kT2, kC, rfl⟩ := q64
        have hR2 := hR.fr kT2.fr
        refine w_aload_n C dX7_reasonFor_67 rfl ?_
        refine w_iload_n C dX7_reasonFor_68 rfl ?_
        refine w_iload C dX7_reasonFor_69 rfl ?_
        refine w_callV C dX7_reasonFor_71 (c_X7_worst hl hI hnx hR2 j t w kC a b ha hb) mX7_worst vX7_worst lk_X7_179 (by first | assumption | exact Nat.zero_lt_one | exact Nat.zero_lt_two | exact Nat.one_lt_two) rfl rfl rfl rfl ⟨by decide, by decide, by decide, by decide⟩ (Nat.le_of_ble_eq_true rfl) (fun _ _ h => h.elim) ⟨by decide, by decide⟩ (fun r_ M_ q71 => ?_)
        obtain ⟨rfl, rfl⟩ := q71
        refine w_istore C dX7_reasonFor_74 (by decide) ?_
        refine w_iload C dX7_reasonFor_76 rfl ?_
        refine w_if_le C dX7_reasonFor_78 (by omega) (fun h78 => ?_) (fun h78 => ?_)
        · refine w_aload_n C dX7_reasonFor_106 rfl ?_
          refine w_iload_n C dX7_reasonFor_107 rfl ?_
          refine w_callV C dX7_reasonFor_108 (c_X7_isMarked hl hI.1 hR2 j (by omega)) mX7_isMarked vX7_isMarked lk_X7_183 (by first | assumption | exact Nat.zero_lt_one | exact Nat.zero_lt_two | exact Nat.one_lt_two) rfl rfl rfl rfl ⟨by decide, by decide, by decide, by decide⟩ (Nat.le_of_ble_eq_true rfl) (fun _ _ h => h.elim) ⟨by decide, by decide⟩ (fun r_ M_ q108 => ?_)
          obtain ⟨rfl, rfl⟩ := q108
          refine w_if_eq C dX7_reasonFor_111 (by omega) (fun h111 => ?_) (fun h111 => ?_)
          · have y2 := b2_is0 h111
            refine w_iconst C dX7_reasonFor_147 ?_
            refine w_goto C dX7_reasonFor_148 ?_
            refine w_istore C dX7_reasonFor_152 (by decide) ?_
            refine w_iload C dX7_reasonFor_154 rfl ?_
            refine w_if_eq_n C dX7_reasonFor_156 (by omega) (by decide) ?_
            refine w_bipush (v := 45) C dX7_reasonFor_159 rfl ?_
            refine w_goto C dX7_reasonFor_161 ?_
            refine w_iret C hr dX7_reasonFor_166 (narrow_c (by omega)).1 (by
                have hz0 := (rs_3 (P := P) (j := j) (t := t) (w := w) (a := a) (b := b) hC (by omega) y1 (by omega)).2.2.2 (by omega)
                first
                | (have hs : ¬ strp S P j t w a = true := by first | exact strp_no y2 | exact strp_og (by omega) | exact fun q => (hsp.mp q) (by omega)
                   rw [if_neg hs] at hz0
                   exact ⟨kT2, fun _ => kC, by rw [hz0]⟩)
                | (have hs : strp S P j t w a = true := hsp.mpr (by omega)
                   rw [if_pos hs] at hz0
                   exact ⟨kT2, fun _ => kC, by rw [hz0]⟩)) (by decide) (by decide)
          · have y2 := b2_n0 h111
            have c4 := (hR2.2.2.1 j (by omega)).2.2.2.1
            have c60 := hR2.2.2.2.2.1.2.2.1 (gpS S j - 1) (by omega)
            have ho : ogS S P (gpS S j - 1) = inGr S P (gpS S j) := (by unfold ogS; rw [if_pos y2.2, show gpS S j - 1 + 1 = gpS S j by omega])
            have hogb : inGr S P (gpS S j) ≤ P.length := List.countP_le_length
            refine w_aload_n C dX7_reasonFor_114 rfl ?_
            refine g_X7_70 C dX7_reasonFor_115 (by first | assumption | exact Nat.zero_lt_one | exact Nat.zero_lt_two | exact Nat.one_lt_two) ?_
            refine w_aload_n C dX7_reasonFor_118 rfl ?_
            refine g_X7_31 C dX7_reasonFor_119 (by first | assumption | exact Nat.zero_lt_one | exact Nat.zero_lt_two | exact Nat.one_lt_two) ?_
            refine w_iload_n C dX7_reasonFor_122 rfl ?_
            refine w_ialdN (j := j) C dX7_reasonFor_123 (by first | assumption | exact Nat.zero_lt_one | exact Nat.zero_lt_two | exact Nat.one_lt_two) IA_49 (by omega) (by omega) ?_
            rw [c4]
            refine w_ialdN (j := gpS S j - 1) C dX7_reasonFor_124 (by first | assumption | exact Nat.zero_lt_one | exact Nat.zero_lt_two | exact Nat.one_lt_two) IA_60 (by omega) (by omega) ?_
            rw [c60, ho]
            refine w_if_eq C dX7_reasonFor_125 (by omega) (fun h125 => ?_) (fun h125 => ?_)
            · refine w_iconst C dX7_reasonFor_147 ?_
              refine w_goto C dX7_reasonFor_148 ?_
              refine w_istore C dX7_reasonFor_152 (by decide) ?_
              refine w_iload C dX7_reasonFor_154 rfl ?_
              refine w_if_eq_n C dX7_reasonFor_156 (by omega) (by decide) ?_
              refine w_bipush (v := 45) C dX7_reasonFor_159 rfl ?_
              refine w_goto C dX7_reasonFor_161 ?_
              refine w_iret C hr dX7_reasonFor_166 (narrow_c (by omega)).1 (by
                  have hz0 := (rs_3 (P := P) (j := j) (t := t) (w := w) (a := a) (b := b) hC (by omega) y1 (by omega)).2.2.2 (by omega)
                  first
                  | (have hs : ¬ strp S P j t w a = true := by first | exact strp_no y2 | exact strp_og (by omega) | exact fun q => (hsp.mp q) (by omega)
                     rw [if_neg hs] at hz0
                     exact ⟨kT2, fun _ => kC, by rw [hz0]⟩)
                  | (have hs : strp S P j t w a = true := hsp.mpr (by omega)
                     rw [if_pos hs] at hz0
                     exact ⟨kT2, fun _ => kC, by rw [hz0]⟩)) (by decide) (by decide)
            · obtain ⟨q, hq, hgq⟩ := inGr_ex (S := S) (P := P) (g := gpS S j) (by omega)
              have c59 := hR2.2.2.2.2.1.2.2.2 q hq (by omega) y2.2
              rw [hgq] at c59
              have hrb := remS_bd (S := S) hI.1 (a + mkR S j t w)
              have hrq : 0 ≤ remP S q ∧ remP S q ≤ 6 := remS_bd (S := S) hI.1 _
              have hsp := strp_ph (t := t) (w := w) (row := a) hI.2.1 y2.1 y2.2 hq hgq
              refine w_aload_n C dX7_reasonFor_128 rfl ?_
              refine g_X7_67 C dX7_reasonFor_129 (by first | assumption | exact Nat.zero_lt_one | exact Nat.zero_lt_two | exact Nat.one_lt_two) ?_
              refine w_aload_n C dX7_reasonFor_132 rfl ?_
              refine g_X7_31 C dX7_reasonFor_133 (by first | assumption | exact Nat.zero_lt_one | exact Nat.zero_lt_two | exact Nat.one_lt_two) ?_
              refine w_iload_n C dX7_reasonFor_136 rfl ?_
              refine w_ialdN (j := j) C dX7_reasonFor_137 (by first | assumption | exact Nat.zero_lt_one | exact Nat.zero_lt_two | exact Nat.one_lt_two) IA_49 (by omega) (by omega) ?_
              rw [c4]
              refine w_ialdN (j := gpS S j - 1) C dX7_reasonFor_138 (by first | assumption | exact Nat.zero_lt_one | exact Nat.zero_lt_two | exact Nat.one_lt_two) IA_59 (by omega) (by omega) ?_
              rw [c59]
              have hab := wst_rg (S := S) (P := P) (j := j) (t := t) (w := w) (a := a) (b := b) (by omega)
              refine w_aload_n C dX7_reasonFor_139 rfl ?_
              refine w_iload_n C dX7_reasonFor_140 rfl ?_
              refine w_callV C dX7_reasonFor_141 (c_X7_remainder hl hI.1 hR2.1.2.2.2.1 y2.2 (mkR S j t w) hmk kC.2.2 a hab) mX7_remainder vX7_remainder lk_X7_186 (by first | assumption | exact Nat.zero_lt_one | exact Nat.zero_lt_two | exact Nat.one_lt_two) rfl rfl rfl rfl ⟨by decide, by decide, by decide, by decide⟩ (Nat.le_of_ble_eq_true rfl) (fun _ _ h => h.elim) ⟨by decide, by decide⟩ (fun r_ M_ q141 => ?_)
              obtain ⟨rfl, rfl⟩ := q141
              refine w_icmp_ne C dX7_reasonFor_144 (by omega) (by omega) (fun h144 => ?_) (fun h144 => ?_)
              · refine w_iconst C dX7_reasonFor_151 ?_
                refine w_istore C dX7_reasonFor_152 (by decide) ?_
                refine w_iload C dX7_reasonFor_154 rfl ?_
                refine w_if_eq_y C dX7_reasonFor_156 (by omega) (by decide) ?_
                refine w_bipush (v := 115) C dX7_reasonFor_164 rfl ?_
                refine w_iret C hr dX7_reasonFor_166 (narrow_c (by omega)).1 (by
                    have hz0 := (rs_3 (P := P) (j := j) (t := t) (w := w) (a := a) (b := b) hC (by omega) y1 (by omega)).2.2.2 (by omega)
                    first
                    | (have hs : ¬ strp S P j t w a = true := by first | exact strp_no y2 | exact strp_og (by omega) | exact fun q => (hsp.mp q) (by omega)
                       rw [if_neg hs] at hz0
                       exact ⟨kT2, fun _ => kC, by rw [hz0]⟩)
                    | (have hs : strp S P j t w a = true := hsp.mpr (by omega)
                       rw [if_pos hs] at hz0
                       exact ⟨kT2, fun _ => kC, by rw [hz0]⟩)) (by decide) (by decide)
              · refine w_iconst C dX7_reasonFor_147 ?_
                refine w_goto C dX7_reasonFor_148 ?_
                refine w_istore C dX7_reasonFor_152 (by decide) ?_
                refine w_iload C dX7_reasonFor_154 rfl ?_
                refine w_if_eq_n C dX7_reasonFor_156 (by omega) (by decide) ?_
                refine w_bipush (v := 45) C dX7_reasonFor_159 rfl ?_
                refine w_goto C dX7_reasonFor_161 ?_
                refine w_iret C hr dX7_reasonFor_166 (narrow_c (by omega)).1 (by
                    have hz0 := (rs_3 (P := P) (j := j) (t := t) (w := w) (a := a) (b := b) hC (by omega) y1 (by omega)).2.2.2 (by omega)
                    first
                    | (have hs : ¬ strp S P j t w a = true := by first | exact strp_no y2 | exact strp_og (by omega) | exact fun q => (hsp.mp q) (by omega)
                       rw [if_neg hs] at hz0
                       exact ⟨kT2, fun _ => kC, by rw [hz0]⟩)
                    | (have hs : strp S P j t w a = true := hsp.mpr (by omega)
                       rw [if_pos hs] at hz0
                       exact ⟨kT2, fun _ => kC, by rw [hz0]⟩)) (by decide) (by decide)
        · refine w_iload C dX7_reasonFor_81 rfl ?_
          refine w_iconst C dX7_reasonFor_83 ?_
          refine w_icmp_ne C dX7_reasonFor_84 (by omega) (by omega) (fun h84 => ?_) (fun h84 => ?_)
          · refine w_iload C dX7_reasonFor_92 rfl ?_
            refine w_iconst C dX7_reasonFor_94 ?_
            refine w_icmp_ne C dX7_reasonFor_95 (by omega) (by omega) (fun h95 => ?_) (fun h95 => ?_)
            · refine w_bipush (v := 112) C dX7_reasonFor_103 rfl ?_
              refine w_iret C hr dX7_reasonFor_105 (narrow_c (by omega)).1 (by first | exact ⟨kT2, RsC.no ((rs_3 hC (by omega) y1 (by omega)).1 (by omega)) (by decide), rs_e ((rs_3 hC (by omega) y1 (by omega)).1 (by omega))⟩ | exact ⟨kT2, RsC.no ((rs_3 hC (by omega) y1 (by omega)).2.1 (by omega)) (by decide), rs_e ((rs_3 hC (by omega) y1 (by omega)).2.1 (by omega))⟩ | exact ⟨kT2, RsC.no ((rs_3 hC (by omega) y1 (by omega)).2.2.1 (by omega)) (by decide), rs_e ((rs_3 hC (by omega) y1 (by omega)).2.2.1 (by omega))⟩) (by decide) (by decide)
            · refine w_bipush (v := 102) C dX7_reasonFor_98 rfl ?_
              refine w_goto C dX7_reasonFor_100 ?_
              refine w_iret C hr dX7_reasonFor_105 (narrow_c (by omega)).1 (by first | exact ⟨kT2, RsC.no ((rs_3 hC (by omega) y1 (by omega)).1 (by omega)) (by decide), rs_e ((rs_3 hC (by omega) y1 (by omega)).1 (by omega))⟩ | exact ⟨kT2, RsC.no ((rs_3 hC (by omega) y1 (by omega)).2.1 (by omega)) (by decide), rs_e ((rs_3 hC (by omega) y1 (by omega)).2.1 (by omega))⟩ | exact ⟨kT2, RsC.no ((rs_3 hC (by omega) y1 (by omega)).2.2.1 (by omega)) (by decide), rs_e ((rs_3 hC (by omega) y1 (by omega)).2.2.1 (by omega))⟩) (by decide) (by decide)
          · refine w_bipush (v := 111) C dX7_reasonFor_87 rfl ?_
            refine w_goto C dX7_reasonFor_89 ?_
            refine w_iret C hr dX7_reasonFor_105 (narrow_c (by omega)).1 (by first | exact ⟨kT2, RsC.no ((rs_3 hC (by omega) y1 (by omega)).1 (by omega)) (by decide), rs_e ((rs_3 hC (by omega) y1 (by omega)).1 (by omega))⟩ | exact ⟨kT2, RsC.no ((rs_3 hC (by omega) y1 (by omega)).2.1 (by omega)) (by decide), rs_e ((rs_3 hC (by omega) y1 (by omega)).2.1 (by omega))⟩ | exact ⟨kT2, RsC.no ((rs_3 hC (by omega) y1 (by omega)).2.2.1 (by omega)) (by decide), rs_e ((rs_3 hC (by omega) y1 (by omega)).2.2.1 (by omega))⟩) (by decide) (by decide)
      · refine w_aload_n C dX7_reasonFor_40 rfl ?_
        refine g_X7_21 C dX7_reasonFor_41 (by first | assumption | exact Nat.zero_lt_one | exact Nat.zero_lt_two | exact Nat.one_lt_two) ?_
        refine w_iload_n C dX7_reasonFor_44 rfl ?_
        refine w_zaldN (j := j) C dX7_reasonFor_45 (by first | assumption | exact Nat.zero_lt_one | exact Nat.zero_lt_two | exact Nat.one_lt_two) ZA_42 (by omega) (by omega) ?_
        rw [q2]
        refine w_if_eq C dX7_reasonFor_46 (by omega) (fun h46 => ?_) (fun h46 => ?_)
        · refine w_bipush (v := 109) C dX7_reasonFor_56 rfl ?_
          refine w_iret C hr dX7_reasonFor_58 (narrow_c (by omega)).1 (⟨TrM.rf, RsC.no (rs_2 (by omega) y1 (by omega)) (by decide), rs_e (rs_2 (by omega) y1 (by omega))⟩) (by decide) (by decide)
        · refine w_aload_n C dX7_reasonFor_49 rfl ?_
          refine g_X7_118 C dX7_reasonFor_50 (by first | assumption | exact Nat.zero_lt_one | exact Nat.zero_lt_two | exact Nat.one_lt_two) ?_
          refine w_if_eq C dX7_reasonFor_53 (by omega) (fun h53 => ?_) (fun h53 => ?_)
          · refine w_aload_n C dX7_reasonFor_59 rfl ?_
            refine w_iload_n C dX7_reasonFor_60 rfl ?_
            refine w_iload_n C dX7_reasonFor_61 rfl ?_
            refine w_iload C dX7_reasonFor_62 rfl ?_
            refine w_callV C dX7_reasonFor_64 (c_X7_turns hl hI.1 hR j (by omega) t w ht hw) mX7_turns vX7_turns lk_X7_175 (by first | assumption | exact Nat.zero_lt_one | exact Nat.zero_lt_two | exact Nat.one_lt_two) rfl rfl rfl rfl ⟨by decide, by decide, by decide, by decide⟩ (Nat.le_of_ble_eq_true rfl) (fun _ _ h => h.elim) ⟨by decide, by decide⟩ (fun r_ M2 q64 => ?_)
            obtain ⟨kT2, kC, rfl⟩ := q64
            have hR2 := hR.fr kT2.fr
            refine w_aload_n C dX7_reasonFor_67 rfl ?_
            refine w_iload_n C dX7_reasonFor_68 rfl ?_
            refine w_iload C dX7_reasonFor_69 rfl ?_
            refine w_callV C dX7_reasonFor_71 (c_X7_worst hl hI hnx hR2 j t w kC a b ha hb) mX7_worst vX7_worst lk_X7_179 (by first | assumption | exact Nat.zero_lt_one | exact Nat.zero_lt_two | exact Nat.one_lt_two) rfl rfl rfl rfl ⟨by decide, by decide, by decide, by decide⟩ (Nat.le_of_ble_eq_true rfl) (fun _ _ h => h.elim) ⟨by decide, by decide⟩ (fun r_ M_ q71 => ?_)
            obtain ⟨rfl, rfl⟩ := q71
            refine w_istore C dX7_reasonFor_74 (by decide) ?_
            refine w_iload C dX7_reasonFor_76 rfl ?_
            refine w_if_le C dX7_reasonFor_78 (by omega) (fun h78 => ?_) (fun h78 => ?_)
            · refine w_aload_n C dX7_reasonFor_106 rfl ?_
              refine w_iload_n C dX7_reasonFor_107 rfl ?_
              refine w_callV C dX7_reasonFor_108 (c_X7_isMarked hl hI.1 hR2 j (by omega)) mX7_isMarked vX7_isMarked lk_X7_183 (by first | assumption | exact Nat.zero_lt_one | exact Nat.zero_lt_two | exact Nat.one_lt_two) rfl rfl rfl rfl ⟨by decide, by decide, by decide, by decide⟩ (Nat.le_of_ble_eq_true rfl) (fun _ _ h => h.elim) ⟨by decide, by decide⟩ (fun r_ M_ q108 => ?_)
              obtain ⟨rfl, rfl⟩ := q108
              refine w_if_eq C dX7_reasonFor_111 (by omega) (fun h111 => ?_) (fun h111 => ?_)
              · have y2 := b2_is0 h111
                refine w_iconst C dX7_reasonFor_147 ?_
                refine w_goto C dX7_reasonFor_148 ?_
                refine w_istore C dX7_reasonFor_152 (by decide) ?_
                refine w_iload C dX7_reasonFor_154 rfl ?_
                refine w_if_eq_n C dX7_reasonFor_156 (by omega) (by decide) ?_
                refine w_bipush (v := 45) C dX7_reasonFor_159 rfl ?_
                refine w_goto C dX7_reasonFor_161 ?_
                refine w_iret C hr dX7_reasonFor_166 (narrow_c (by omega)).1 (by
                    have hz0 := (rs_3 (P := P) (j := j) (t := t) (w := w) (a := a) (b := b) hC (by omega) y1 (by omega)).2.2.2 (by omega)
                    first
                    | (have hs : ¬ strp S P j t w a = true := by first | exact strp_no y2 | exact strp_og (by omega) | exact fun q => (hsp.mp q) (by omega)
                       rw [if_neg hs] at hz0
                       exact ⟨kT2, fun _ => kC, by rw [hz0]⟩)
                    | (have hs : strp S P j t w a = true := hsp.mpr (by omega)
                       rw [if_pos hs] at hz0
                       exact ⟨kT2, fun _ => kC, by rw [hz0]⟩)) (by decide) (by decide)
              · have y2 := b2_n0 h111
                have c4 := (hR2.2.2.1 j (by omega)).2.2.2.1
                have c60 := hR2.2.2.2.2.1.2.2.1 (gpS S j - 1) (by omega)
                have ho : ogS S P (gpS S j - 1) = inGr S P (gpS S j) := (by unfold ogS; rw [if_pos y2.2, show gpS S j - 1 + 1 = gpS S j by omega])
                have hogb : inGr S P (gpS S j) ≤ P.length := List.countP_le_length
                refine w_aload_n C dX7_reasonFor_114 rfl ?_
                refine g_X7_70 C dX7_reasonFor_115 (by first | assumption | exact Nat.zero_lt_one | exact Nat.zero_lt_two | exact Nat.one_lt_two) ?_
                refine w_aload_n C dX7_reasonFor_118 rfl ?_
                refine g_X7_31 C dX7_reasonFor_119 (by first | assumption | exact Nat.zero_lt_one | exact Nat.zero_lt_two | exact Nat.one_lt_two) ?_
                refine w_iload_n C dX7_reasonFor_122 rfl ?_
                refine w_ialdN (j := j) C dX7_reasonFor_123 (by first | assumption | exact Nat.zero_lt_one | exact Nat.zero_lt_two | exact Nat.one_lt_two) IA_49 (by omega) (by omega) ?_
                rw [c4]
                refine w_ialdN (j := gpS S j - 1) C dX7_reasonFor_124 (by first | assumption | exact Nat.zero_lt_one | exact Nat.zero_lt_two | exact Nat.one_lt_two) IA_60 (by omega) (by omega) ?_
                rw [c60, ho]
                refine w_if_eq C dX7_reasonFor_125 (by omega) (fun h125 => ?_) (fun h125 => ?_)
                · refine w_iconst C dX7_reasonFor_147 ?_
                  refine w_goto C dX7_reasonFor_148 ?_
                  refine w_istore C dX7_reasonFor_152 (by decide) ?_
                  refine w_iload C dX7_reasonFor_154 rfl ?_
                  refine w_if_eq_n C dX7_reasonFor_156 (by omega) (by decide) ?_
                  refine w_bipush (v := 45) C dX7_reasonFor_159 rfl ?_
                  refine w_goto C dX7_reasonFor_161 ?_
                  refine w_iret C hr dX7_reasonFor_166 (narrow_c (by omega)).1 (by
                      have hz0 := (rs_3 (P := P) (j := j) (t := t) (w := w) (a := a) (b := b) hC (by omega) y1 (by omega)).2.2.2 (by omega)
                      first
                      | (have hs : ¬ strp S P j t w a = true := by first | exact strp_no y2 | exact strp_og (by omega) | exact fun q => (hsp.mp q) (by omega)
                         rw [if_neg hs] at hz0
                         exact ⟨kT2, fun _ => kC, by rw [hz0]⟩)
                      | (have hs : strp S P j t w a = true := hsp.mpr (by omega)
                         rw [if_pos hs] at hz0
                         exact ⟨kT2, fun _ => kC, by rw [hz0]⟩)) (by decide) (by decide)
                · obtain ⟨q, hq, hgq⟩ := inGr_ex (S := S) (P := P) (g := gpS S j) (by omega)
                  have c59 := hR2.2.2.2.2.1.2.2.2 q hq (by omega) y2.2
                  rw [hgq] at c59
                  have hrb := remS_bd (S := S) hI.1 (a + mkR S j t w)
                  have hrq : 0 ≤ remP S q ∧ remP S q ≤ 6 := remS_bd (S := S) hI.1 _
                  have hsp := strp_ph (t := t) (w := w) (row := a) hI.2.1 y2.1 y2.2 hq hgq
                  refine w_aload_n C dX7_reasonFor_128 rfl ?_
                  refine g_X7_67 C dX7_reasonFor_129 (by first | assumption | exact Nat.zero_lt_one | exact Nat.zero_lt_two | exact Nat.one_lt_two) ?_
                  refine w_aload_n C dX7_reasonFor_132 rfl ?_
                  refine g_X7_31 C dX7_reasonFor_133 (by first | assumption | exact Nat.zero_lt_one | exact Nat.zero_lt_two | exact Nat.one_lt_two) ?_
                  refine w_iload_n C dX7_reasonFor_136 rfl ?_
                  refine w_ialdN (j := j) C dX7_reasonFor_137 (by first | assumption | exact Nat.zero_lt_one | exact Nat.zero_lt_two | exact Nat.one_lt_two) IA_49 (by omega) (by omega) ?_
                  rw [c4]
                  refine w_ialdN (j := gpS S j - 1) C dX7_reasonFor_138 (by first | assumption | exact Nat.zero_lt_one | exact Nat.zero_lt_two | exact Nat.one_lt_two) IA_59 (by omega) (by omega) ?_
                  rw [c59]
                  have hab := wst_rg (S := S) (P := P) (j := j) (t := t) (w := w) (a := a) (b := b) (by omega)
                  refine w_aload_n C dX7_reasonFor_139 rfl ?_
                  refine w_iload_n C dX7_reasonFor_140 rfl ?_
                  refine w_callV C dX7_reasonFor_141 (c_X7_remainder hl hI.1 hR2.1.2.2.2.1 y2.2 (mkR S j t w) hmk kC.2.2 a hab) mX7_remainder vX7_remainder lk_X7_186 (by first | assumption | exact Nat.zero_lt_one | exact Nat.zero_lt_two | exact Nat.one_lt_two) rfl rfl rfl rfl ⟨by decide, by decide, by decide, by decide⟩ (Nat.le_of_ble_eq_true rfl) (fun _ _ h => h.elim) ⟨by decide, by decide⟩ (fun r_ M_ q141 => ?_)
                  obtain ⟨rfl, rfl⟩ := q141
                  refine w_icmp_ne C dX7_reasonFor_144 (by omega) (by omega) (fun h144 => ?_) (fun h144 => ?_)
                  · refine w_iconst C dX7_reasonFor_151 ?_
                    refine w_istore C dX7_reasonFor_152 (by decide) ?_
                    refine w_iload C dX7_reasonFor_154 rfl ?_
                    refine w_if_eq_y C dX7_reasonFor_156 (by omega) (by decide) ?_
                    refine w_bipush (v := 115) C dX7_reasonFor_164 rfl ?_
                    refine w_iret C hr dX7_reasonFor_166 (narrow_c (by omega)).1 (by
                        have hz0 := (rs_3 (P := P) (j := j) (t := t) (w := w) (a := a) (b := b) hC (by omega) y1 (by omega)).2.2.2 (by omega)
                        first
                        | (have hs : ¬ strp S P j t w a = true := by first | exact strp_no y2 | exact strp_og (by omega) | exact fun q => (hsp.mp q) (by omega)
                           rw [if_neg hs] at hz0
                           exact ⟨kT2, fun _ => kC, by rw [hz0]⟩)
                        | (have hs : strp S P j t w a = true := hsp.mpr (by omega)
                           rw [if_pos hs] at hz0
                           exact ⟨kT2, fun _ => kC, by rw [hz0]⟩)) (by decide) (by decide)
                  · refine w_iconst C dX7_reasonFor_147 ?_
                    refine w_goto C dX7_reasonFor_148 ?_
                    refine w_istore C dX7_reasonFor_152 (by decide) ?_
                    refine w_iload C dX7_reasonFor_154 rfl ?_
                    refine w_if_eq_n C dX7_reasonFor_156 (by omega) (by decide) ?_
                    refine w_bipush (v := 45) C dX7_reasonFor_159 rfl ?_
                    refine w_goto C dX7_reasonFor_161 ?_
                    refine w_iret C hr dX7_reasonFor_166 (narrow_c (by omega)).1 (by
                        have hz0 := (rs_3 (P := P) (j := j) (t := t) (w := w) (a := a) (b := b) hC (by omega) y1 (by omega)).2.2.2 (by omega)
                        first
                        | (have hs : ¬ strp S P j t w a = true := by first | exact strp_no y2 | exact strp_og (by omega) | exact fun q => (hsp.mp q) (by omega)
                           rw [if_neg hs] at hz0
                           exact ⟨kT2, fun _ => kC, by rw [hz0]⟩)
                        | (have hs : strp S P j t w a = true := hsp.mpr (by omega)
                           rw [if_pos hs] at hz0
                           exact ⟨kT2, fun _ => kC, by rw [hz0]⟩)) (by decide) (by decide)
            · refine w_iload C dX7_reasonFor_81 rfl ?_
              refine w_iconst C dX7_reasonFor_83 ?_
              refine w_icmp_ne C dX7_reasonFor_84 (by omega) (by omega) (fun h84 => ?_) (fun h84 => ?_)
              · refine w_iload C dX7_reasonFor_92 rfl ?_
                refine w_iconst C dX7_reasonFor_94 ?_
                refine w_icmp_ne C dX7_reasonFor_95 (by omega) (by omega) (fun h95 => ?_) (fun h95 => ?_)
                · refine w_bipush (v := 112) C dX7_reasonFor_103 rfl ?_
                  refine w_iret C hr dX7_reasonFor_105 (narrow_c (by omega)).1 (by first | exact ⟨kT2, RsC.no ((rs_3 hC (by omega) y1 (by omega)).1 (by omega)) (by decide), rs_e ((rs_3 hC (by omega) y1 (by omega)).1 (by omega))⟩ | exact ⟨kT2, RsC.no ((rs_3 hC (by omega) y1 (by omega)).2.1 (by omega)) (by decide), rs_e ((rs_3 hC (by omega) y1 (by omega)).2.1 (by omega))⟩ | exact ⟨kT2, RsC.no ((rs_3 hC (by omega) y1 (by omega)).2.2.1 (by omega)) (by decide), rs_e ((rs_3 hC (by omega) y1 (by omega)).2.2.1 (by omega))⟩) (by decide) (by decide)
                · refine w_bipush (v := 102) C dX7_reasonFor_98 rfl ?_
                  refine w_goto C dX7_reasonFor_100 ?_
                  refine w_iret C hr dX7_reasonFor_105 (narrow_c (by omega)).1 (by first | exact ⟨kT2, RsC.no ((rs_3 hC (by omega) y1 (by omega)).1 (by omega)) (by decide), rs_e ((rs_3 hC (by omega) y1 (by omega)).1 (by omega))⟩ | exact ⟨kT2, RsC.no ((rs_3 hC (by omega) y1 (by omega)).2.1 (by omega)) (by decide), rs_e ((rs_3 hC (by omega) y1 (by omega)).2.1 (by omega))⟩ | exact ⟨kT2, RsC.no ((rs_3 hC (by omega) y1 (by omega)).2.2.1 (by omega)) (by decide), rs_e ((rs_3 hC (by omega) y1 (by omega)).2.2.1 (by omega))⟩) (by decide) (by decide)
              · refine w_bipush (v := 111) C dX7_reasonFor_87 rfl ?_
                refine w_goto C dX7_reasonFor_89 ?_
                refine w_iret C hr dX7_reasonFor_105 (narrow_c (by omega)).1 (by first | exact ⟨kT2, RsC.no ((rs_3 hC (by omega) y1 (by omega)).1 (by omega)) (by decide), rs_e ((rs_3 hC (by omega) y1 (by omega)).1 (by omega))⟩ | exact ⟨kT2, RsC.no ((rs_3 hC (by omega) y1 (by omega)).2.1 (by omega)) (by decide), rs_e ((rs_3 hC (by omega) y1 (by omega)).2.1 (by omega))⟩ | exact ⟨kT2, RsC.no ((rs_3 hC (by omega) y1 (by omega)).2.2.1 (by omega)) (by decide), rs_e ((rs_3 hC (by omega) y1 (by omega)).2.2.1 (by omega))⟩) (by decide) (by decide)
          · refine w_bipush (v := 109) C dX7_reasonFor_56 rfl ?_
            refine w_iret C hr dX7_reasonFor_58 (narrow_c (by omega)).1 (⟨TrM.rf, RsC.no (rs_2 (by omega) y1 (by omega)) (by decide), rs_e (rs_2 (by omega) y1 (by omega))⟩) (by decide) (by decide)
    · have y1 : ¬ mayT S j t := b2_is0 (Decidable.not_not.mp h15)
      refine w_aload_n C dX7_reasonFor_18 rfl ?_
      refine g_X7_27 C dX7_reasonFor_19 (by first | assumption | exact Nat.zero_lt_one | exact Nat.zero_lt_two | exact Nat.one_lt_two) ?_
      refine w_iload_n C dX7_reasonFor_22 rfl ?_
      refine w_ialdN (j := j) C dX7_reasonFor_23 (by first | assumption | exact Nat.zero_lt_one | exact Nat.zero_lt_two | exact Nat.one_lt_two) IA_48 (by omega) (by omega) ?_
      rw [q3]
      refine w_if_ne C dX7_reasonFor_24 (by omega) (fun h24 => ?_) (fun h24 => ?_)
      · refine w_bipush (v := 116) C dX7_reasonFor_32 rfl ?_
        refine w_iret C hr dX7_reasonFor_34 (narrow_c (by omega)).1 (by first | exact ⟨TrM.rf, RsC.no (rs_0 (by omega)) (by decide), rs_e (rs_0 (by omega))⟩ | exact ⟨TrM.rf, RsC.no (rs_1 (by omega) y1) (by decide), rs_e (rs_1 (by omega) y1)⟩ | (exfalso; omega)) (by decide) (by decide)
      · refine w_bipush (v := 101) C dX7_reasonFor_27 rfl ?_
        refine w_goto C dX7_reasonFor_29 ?_
        refine w_iret C hr dX7_reasonFor_34 (narrow_c (by omega)).1 (by first | exact ⟨TrM.rf, RsC.no (rs_0 (by omega)) (by decide), rs_e (rs_0 (by omega))⟩ | exact ⟨TrM.rf, RsC.no (rs_1 (by omega) y1) (by decide), rs_e (rs_1 (by omega) y1)⟩ | (exfalso; omega)) (by decide) (by decide)
theorem c_X7_reason (hl : l.stackTraces = false) {S : Sg} {P : List Pc} {nx : Nat} (hI : Inv S P nx) (hC : InvC S) (hnx : nx < 1000000) (hR : RepMo S P nx M) (a t b c' : Int) (w : Nat) (hw : w ≤ 1) (ha : -2147483648 ≤ a ∧ a ≤ 2147483647) (ht : -2147483648 ≤ t ∧ t ≤ 2147483647) (hb : -2147483648 ≤ b ∧ b ≤ 2147483647) (hc : -2147483648 ≤ c' ∧ c' ≤ 2147483647) : Con l b0 yX7_reason cX7_reason 6 (some .char) 4 0 0 [aO 40 0, aI a, aI t, aI b, aI c', aI w] ad cntM M (okM (oReason a t b c' w S P nx)) noX := by
  have b1 := b2_01 (0 ≤ a ∧ a < nsS S)
  have b3 := b2_01 (0 ≤ t ∧ t ≤ 3)
  refine Con.of hl pl_X7 (Nat.le_of_ble_eq_true rfl) ?_
  intro D cA p e s m args below meth c C hr
  refine w_aload_n C dX7_reason_0 rfl ?_
  refine w_aload_n C dX7_reason_1 rfl ?_
  refine w_iload_n C dX7_reason_2 rfl ?_
  refine w_callV C dX7_reason_3 (c_X7_isShape hl hI.1 hR a ha) mX7_isShape vX7_isShape lk_X7_146 (by first | assumption | exact Nat.zero_lt_one | exact Nat.zero_lt_two | exact Nat.one_lt_two) rfl rfl rfl rfl ⟨by decide, by decide, by decide, by decide⟩ (Nat.le_of_ble_eq_true rfl) (fun _ _ h => h.elim) ⟨by decide, by decide⟩ (fun r_ M_ q3 => ?_)
  obtain ⟨rfl, rfl⟩ := q3
  refine w_if_ne C dX7_reason_6 (by omega) (fun h6 => ?_) (fun h6 => ?_)
  · have y1 := b2_n0 h6
    refine w_iload_n C dX7_reason_13 rfl ?_
    refine w_iconst C dX7_reason_14 ?_
    refine w_iconst C dX7_reason_15 ?_
    refine w_callS C dX7_reason_16 (c_X7_in hl t 0 3 (by omega) (by omega) (by omega)) mX7_in sX7_in lk_X7_122 rfl rfl ⟨by decide, by decide, by decide, by decide⟩ (Nat.le_of_ble_eq_true rfl) (fun _ _ h => h.elim) ⟨by decide, by decide⟩ (fun r_ M_ q16 => ?_)
    obtain ⟨rfl, rfl⟩ := q16
    refine w_if_eq C dX7_reason_19 (by omega) (fun h19 => ?_) (fun h19 => ?_)
    · have y2 := b2_is0 h19
      refine w_iconst C dX7_reason_26 ?_
      refine w_callV C dX7_reason_27 (c_X7_failsY hl 2 (by omega)) mX7_fails vX7_fails lk_X7_129 (by first | assumption | exact Nat.zero_lt_one | exact Nat.zero_lt_two | exact Nat.one_lt_two) rfl rfl rfl rfl ⟨by decide, by decide, by decide, by decide⟩ (Nat.le_of_ble_eq_true rfl) (fun _ _ h => h.elim) ⟨by decide, by decide⟩ (fun r_ MF q27 => ?_)
      obtain ⟨kF, kT, rfl⟩ := q27
      have hRF := hR.fr kF.fr
      refine w_if_eq_n C dX7_reason_30 (by omega) (by decide) ?_
      refine w_iconst C dX7_reason_33 ?_
      refine w_goto C dX7_reason_34 ?_
      refine w_iret C hr dX7_reason_48 (narrow_c (by omega)).1 (by
          first
          | exact okM_no (i := 1) (v := 0) (by unfold oReason; rw [if_pos y1]) (by decide) rfl kT hRF
          | exact okM_no (i := 2) (v := 0) (by unfold oReason; rw [if_neg (fun q => q y1), if_pos y2]) (by decide) rfl kT hRF
          | exact okM_of (by unfold oReason; rw [if_neg (fun q => q y1), if_neg (fun q => q y2), Int.toNat_natCast, Int.toNat_natCast]) rfl ((kT2.1 0 (by decide) (by decide)).trans kT) (hRF.fr kT2.fr)) (by decide) (by decide)
    · have y2 := b2_n0 h19
      obtain ⟨u, rfl⟩ := Int.eq_ofNat_of_zero_le y1.1
      obtain ⟨v, rfl⟩ := Int.eq_ofNat_of_zero_le y2.1
      refine w_iconst C dX7_reason_22 ?_
      refine w_goto C dX7_reason_23 ?_
      refine w_callV C dX7_reason_27 (c_X7_failsN hl 0 (by omega)) mX7_fails vX7_fails lk_X7_129 (by first | assumption | exact Nat.zero_lt_one | exact Nat.zero_lt_two | exact Nat.one_lt_two) rfl rfl rfl rfl ⟨by decide, by decide, by decide, by decide⟩ (Nat.le_of_ble_eq_true rfl) (fun _ _ h => h.elim) ⟨by decide, by decide⟩ (fun r_ MF q27 => ?_)
      obtain ⟨kF, kT, rfl⟩ := q27
      have hRF := hR.fr kF.fr
      refine w_if_eq_y C dX7_reason_30 (by omega) (by decide) ?_
      refine w_aload_n C dX7_reason_37 rfl ?_
      refine w_iload_n C dX7_reason_38 rfl ?_
      refine w_iload_n C dX7_reason_39 rfl ?_
      refine w_iload_n C dX7_reason_40 rfl ?_
      refine w_iload C dX7_reason_41 rfl ?_
      refine w_iload C dX7_reason_43 rfl ?_
      refine w_callV C dX7_reason_45 (c_X7_reasonFor hl hI hC hnx hRF u (by omega) v w (by omega) hw b c' hb hc) mX7_reasonFor vX7_reasonFor lk_X7_190 (by first | assumption | exact Nat.zero_lt_one | exact Nat.zero_lt_two | exact Nat.one_lt_two) rfl rfl rfl rfl ⟨by decide, by decide, by decide, by decide⟩ (Nat.le_of_ble_eq_true rfl) (fun _ _ h => h.elim) ⟨by decide, by decide⟩ (fun r_ M2 q45 => ?_)
      obtain ⟨kT2, -, rfl⟩ := q45
      have hrs := reason_bd S P u v w b c'
      refine w_iret C hr dX7_reason_48 (narrow_c (by omega)).1 (by
          first
          | exact okM_no (i := 1) (v := 0) (by unfold oReason; rw [if_pos y1]) (by decide) rfl kT hRF
          | exact okM_no (i := 2) (v := 0) (by unfold oReason; rw [if_neg (fun q => q y1), if_pos y2]) (by decide) rfl kT hRF
          | exact okM_of (by unfold oReason; rw [if_neg (fun q => q y1), if_neg (fun q => q y2), Int.toNat_natCast, Int.toNat_natCast]) rfl ((kT2.1 0 (by decide) (by decide)).trans kT) (hRF.fr kT2.fr)) (by decide) (by decide)
  · have y1 := b2_is0 (Decidable.not_not.mp h6)
    refine w_iconst C dX7_reason_9 ?_
    refine w_goto C dX7_reason_10 ?_
    refine w_callV C dX7_reason_27 (c_X7_failsY hl 1 (by omega)) mX7_fails vX7_fails lk_X7_129 (by first | assumption | exact Nat.zero_lt_one | exact Nat.zero_lt_two | exact Nat.one_lt_two) rfl rfl rfl rfl ⟨by decide, by decide, by decide, by decide⟩ (Nat.le_of_ble_eq_true rfl) (fun _ _ h => h.elim) ⟨by decide, by decide⟩ (fun r_ MF q27 => ?_)
    obtain ⟨kF, kT, rfl⟩ := q27
    have hRF := hR.fr kF.fr
    refine w_if_eq_n C dX7_reason_30 (by omega) (by decide) ?_
    refine w_iconst C dX7_reason_33 ?_
    refine w_goto C dX7_reason_34 ?_
    refine w_iret C hr dX7_reason_48 (narrow_c (by omega)).1 (by
        first
        | exact okM_no (i := 1) (v := 0) (by unfold oReason; rw [if_pos y1]) (by decide) rfl kT hRF
        | exact okM_no (i := 2) (v := 0) (by unfold oReason; rw [if_neg (fun q => q y1), if_pos y2]) (by decide) rfl kT hRF
        | exact okM_of (by unfold oReason; rw [if_neg (fun q => q y1), if_neg (fun q => q y2), Int.toNat_natCast, Int.toNat_natCast]) rfl ((kT2.1 0 (by decide) (by decide)).trans kT) (hRF.fr kT2.fr)) (by decide) (by decide)
end Mo
