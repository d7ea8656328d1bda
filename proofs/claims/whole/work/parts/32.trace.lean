/-! Outline.trace: the rows of bits of a shape as it lies -/
def occ (d : Nat → Bool) (t mi n u v : Nat) : Bool := (List.range n).any fun k => d k && tR t mi k == u && tC t mi k == v
def rocc (d : Nat → Bool) (t mi n u : Nat) : Bool := (List.range n).any fun k => d k && tR t mi k == u
def cocc (d : Nat → Bool) (t mi n v : Nat) : Bool := (List.range n).any fun k => d k && tC t mi k == v
theorem occ_s (d : Nat → Bool) (t mi n u v : Nat) : occ d t mi (n + 1) u v = (occ d t mi n u v || (d n && tR t mi n == u && tC t mi n == v)) := by simp [occ, List.range_succ]
theorem rocc_s (d : Nat → Bool) (t mi n u : Nat) : rocc d t mi (n + 1) u = (rocc d t mi n u || (d n && tR t mi n == u)) := by simp [rocc, List.range_succ]
theorem cocc_s (d : Nat → Bool) (t mi n v : Nat) : cocc d t mi (n + 1) v = (cocc d t mi n v || (d n && tC t mi n == v)) := by simp [cocc, List.range_succ]
theorem bits_or {f g : Nat → Bool} {k : Nat} (hk : k < 5) (h : ∀ i, i < 5 → g i = (f i || (k == i))) : bitsN f 5 ||| 1 * 2 ^ k = bitsN g 5 := bitsN_of fun i => by
  rw [tb_or_shl, bitsN_tb]
  by_cases hi : i < 5
  · rw [h i hi, decide_eq_true hi]
    simp
    rfl
  · rw [decide_eq_false hi, decide_eq_false (show ¬ k = i by omega)]
    simp
theorem bits5 {f : Nat → Bool} : bitsN f 5 < 32 := bitsN_lt f 5
theorem nc_occ (d : Nat → Bool) (t mi u v : Nat) : nc d t mi u v = occ d t mi 25 (u + topS d t mi) (v + leftS d t mi) := rfl
theorem nc_shift (d : Nat → Bool) (t mi u : Nat) : (bitsN (occ d t mi 25 (u + topS d t mi)) 5) / 2 ^ (leftS d t mi) = bitsN (nc d t mi u) 5 := bitsN_of fun i => by
  rw [Nat.testBit_div_two_pow, bitsN_tb, nc_occ, Nat.add_comm i]
  by_cases h : i + leftS d t mi < 5
  · rw [Nat.add_comm, decide_eq_true h, decide_eq_true (show i < 5 by omega)]
  · have hz : occ d t mi 25 (u + topS d t mi) (leftS d t mi + i) = false := by
      cases ho : occ d t mi 25 (u + topS d t mi) (leftS d t mi + i)
      · rfl
      · have h1 := nc_lt (d := d) (t := t) (mi := mi) (r := u) (c := i) (by rw [nc_occ, Nat.add_comm i]; exact ho)
        obtain ⟨k, hk, -, -, hk4⟩ := nc_iff.mp (show nc d t mi u i = true by rw [nc_occ, Nat.add_comm i]; exact ho)
        have := tC_le (t := t) (mi := mi) hk
        omega
    rw [hz]
    simp
def trK (o : Nat) : Nat → Nat → Prop := fun k i => (k = 31 ∨ k = 5) ∧ i = o
def OuOK (d : Nat → Bool) (t mi u v : Nat) (o : Nat) (M : Mem) : Prop := (∀ r, r < 5 → M.1 31 o r = (bitsN (nc d t mi r) 5 : Nat)) ∧ M.1 5 o 3 = hgt d t mi ∧ M.1 5 o 4 = wid d t mi ∧ M.1 5 o 5 = (tR t mi (5 * u + v) : Int) - topS d t mi
section Tr
variable {l : Launch} {b0 : Nat → Prop} {ad : Ads} {ns nt : Nat} {M : Mem}
theorem c_X2_trace (hl : l.stackTraces = false) {o j t mi : Nat} (ho : inD (cnt ns nt) 5 o) (ho2 : inD (cnt ns nt) 31 o) (hj : inD (cnt ns nt) 30 j) (h0 : M.1 5 o 0 = t) (h1 : M.1 5 o 1 = mi) (ht : t < 4) (hm : mi ≤ 1) {d : Nat → Bool} (hd : ∀ r, r < 5 → M.1 30 j r = (bitsN (fun i => d (5 * r + i)) 5 : Nat)) (u v : Nat) (hu : u < 5) (hv : v < 5) : Con l b0 yX2_trace cX2_trace 10 none 3 0 0 [aO 5 o, aO 30 j, aI u, aI v] ad (cnt ns nt) M (fun r9 M' => Fr (trK o) M M' ∧ M'.1 5 o 0 = t ∧ M'.1 5 o 1 = mi ∧ OuOK d t mi u v o M' ∧ r9 = none) noX := by
  refine Con.of hl pl_X2 (Nat.le_of_ble_eq_true rfl) ?_
  intro D cA p e s m args below meth c C hr
  have L2 : ∀ (b n : Nat) (M1 : Mem), n + b = 5 → Fr (fun k i => k = 31 ∧ i = o) M M1 → (∀ r, r < n → M1.1 31 o r = (bitsN (nc d t mi r) 5 : Nat)) → (∀ r, n ≤ r → r < 5 → M1.1 31 o r = (bitsN (occ d t mi 25 r) 5 : Nat)) → Wm p l e (rmd 3 0 0) s m args below meth c 10 D cA b0 0 0 (vx_MQ below (mQ D cA b0 ad (cnt ns nt) (fun r9 M' => Fr (trK o) M M' ∧ M'.1 5 o 0 = t ∧ M'.1 5 o 1 = mi ∧ OuOK d t mi u v o M' ∧ r9 = none)) (mX D cA b0 ad (cnt ns nt) noX) args s 0 0 b0) 136 [(0, aO 5 o), (2, aI u), (3, aI v), (4, aI (bitsN (rocc d t mi 25) 5 : Nat)), (5, aI (bitsN (cocc d t mi 25) 5 : Nat)), (6, aI (topS d t mi)), (7, aI (leftS d t mi)), (8, aI n)] [] ad (cnt ns nt) M1 := by
    intro b
    have tl : topS d t mi ≤ 5 := lst5_le _
    have ll : leftS d t mi ≤ 5 := lst5_le _
    induction b with
    | zero =>
      intro n M1 hn hF hlo hhi
      have f0 := (hF 5 o (fun q => absurd q.1 (by decide))).1
      refine w_iload C dX2_trace_136 rfl ?_
      refine w_iconst C dX2_trace_138 ?_
      refine w_icmp_ge C dX2_trace_139 (by omega) (by omega) (fun h139 => ?_) (fun h139 => ?_)
      · refine w_aload_n C dX2_trace_172 rfl ?_
        refine w_iload C dX2_trace_173 rfl ?_
        refine w_callN C dX2_trace_175 (c_X6_endOfBits hl _ (Nat.lt_trans bits5 (by decide))) mX6_endOfBits sX6_endOfBits lk_X2_52 rfl rfl ⟨by decide, by decide, by decide, by decide⟩ (Nat.le_of_ble_eq_true rfl) (fun _ _ h => h.elim) ⟨by decide, by decide⟩ (fun r_ M_ q175 => ?_)
        obtain ⟨rfl, rfl⟩ := q175
        rw [endB_bits]
        refine w_iload C dX2_trace_178 rfl ?_
        refine w_isub C dX2_trace_180 ?_
        refine p_X2_55 C dX2_trace_181 (by first | assumption | exact Nat.zero_lt_one | exact Nat.zero_lt_two | exact Nat.one_lt_two) ?_
        refine w_aload_n C dX2_trace_184 rfl ?_
        refine w_iload C dX2_trace_185 rfl ?_
        refine w_callN C dX2_trace_187 (c_X6_endOfBits hl _ (Nat.lt_trans bits5 (by decide))) mX6_endOfBits sX6_endOfBits lk_X2_52 rfl rfl ⟨by decide, by decide, by decide, by decide⟩ (Nat.le_of_ble_eq_true rfl) (fun _ _ h => h.elim) ⟨by decide, by decide⟩ (fun r_ M_ q187 => ?_)
        obtain ⟨rfl, rfl⟩ := q187
        rw [endB_bits]
        refine w_iload C dX2_trace_190 rfl ?_
        refine w_isub C dX2_trace_192 ?_
        refine p_X2_58 C dX2_trace_193 (by first | assumption | exact Nat.zero_lt_one | exact Nat.zero_lt_two | exact Nat.one_lt_two) ?_
        refine w_aload_n C dX2_trace_196 rfl ?_
        refine w_aload_n C dX2_trace_197 rfl ?_
        refine w_iload_n C dX2_trace_198 rfl ?_
        refine w_iload_n C dX2_trace_199 rfl ?_
        have g0 : (uI (uI M_ 5 o 3 ((end5 (rocc d t mi 25) : Int) - topS d t mi)) 5 o 4 ((end5 (cocc d t mi 25) : Int) - leftS d t mi)).1 5 o 0 = t := by
          rw [uI_get, if_neg (by simp), uI_get, if_neg (by simp), f0]; exact h0
        have g1 : (uI (uI M_ 5 o 3 ((end5 (rocc d t mi 25) : Int) - topS d t mi)) 5 o 4 ((end5 (cocc d t mi 25) : Int) - leftS d t mi)).1 5 o 1 = mi := by
          rw [uI_get, if_neg (by simp), uI_get, if_neg (by simp), f0]; exact h1
        refine w_callV C dX2_trace_200 (c_X2_turnedRow hl ho g0 g1 ht hm u v hu hv) mX2_turnedRow vX2_turnedRow lk_X2_37 (by first | assumption | exact Nat.zero_lt_one | exact Nat.zero_lt_two | exact Nat.one_lt_two) rfl rfl rfl rfl ⟨by decide, by decide, by decide, by decide⟩ (Nat.le_of_ble_eq_true rfl) (fun _ _ h => h.elim) ⟨by decide, by decide⟩ (fun r_ M_ q200 => ?_)
        obtain ⟨rfl, rfl⟩ := q200
        refine w_iload C dX2_trace_203 rfl ?_
        refine w_isub C dX2_trace_205 ?_
        refine p_X2_61 C dX2_trace_206 (by first | assumption | exact Nat.zero_lt_one | exact Nat.zero_lt_two | exact Nat.one_lt_two) ?_
        refine w_vret C hr dX2_trace_209 (⟨((((hF.mono (fun k i q => ⟨Or.inl q.1, q.2⟩)).uI ⟨Or.inr rfl, rfl⟩).uI ⟨Or.inr rfl, rfl⟩).uI ⟨Or.inr rfl, rfl⟩), by rw [uI_get, if_neg (by simp)]; exact g0, by rw [uI_get, if_neg (by simp)]; exact g1, ⟨fun r hr => ?_, ?_, ?_, ?_⟩, rfl⟩) (by decide) (by decide)
        · rw [uI_get, if_neg (by simp), uI_get, if_neg (by simp), uI_get, if_neg (by simp)]
          exact hlo r (by omega)
        · rw [uI_get, if_neg (by simp), uI_get, if_neg (by simp), uI_get, if_pos ⟨rfl, rfl, rfl⟩]
          rfl
        · rw [uI_get, if_neg (by simp), uI_get, if_pos ⟨rfl, rfl, rfl⟩]
          rfl
        · rw [uI_get, if_pos ⟨rfl, rfl, rfl⟩]
      · omega
    | succ b ih =>
      intro n M1 hn hF hlo hhi
      refine w_iload C dX2_trace_136 rfl ?_
      refine w_iconst C dX2_trace_138 ?_
      refine w_icmp_ge C dX2_trace_139 (by omega) (by omega) (fun h139 => ?_) (fun h139 => ?_)
      · omega
      · refine w_aload_n C dX2_trace_142 rfl ?_
        refine g_X2_19 C dX2_trace_143 (by first | assumption | exact Nat.zero_lt_one | exact Nat.zero_lt_two | exact Nat.one_lt_two) ?_
        refine w_iload C dX2_trace_146 rfl ?_
        refine w_aload_n C dX2_trace_148 rfl ?_
        refine g_X2_19 C dX2_trace_149 (by first | assumption | exact Nat.zero_lt_one | exact Nat.zero_lt_two | exact Nat.one_lt_two) ?_
        refine w_iload C dX2_trace_152 rfl ?_
        refine w_iload C dX2_trace_154 rfl ?_
        refine w_iadd C dX2_trace_156 ?_
        refine w_callN C dX2_trace_157 (c_X6_entry hl IA_31 ho2 ((n : Int) + topS d t mi) (by omega)) mX6_entry sX6_entry lk_X2_29 rfl rfl ⟨by decide, by decide, by decide, by decide⟩ (Nat.le_of_ble_eq_true rfl) (fun _ _ h => h.elim) ⟨by decide, by decide⟩ (fun r_ M_ q157 => ?_)
        obtain ⟨rfl, rfl⟩ := q157
        have hrd : rd M_ 31 o 5 ((n : Int) + topS d t mi) = (bitsN (occ d t mi 25 (n + topS d t mi)) 5 : Nat) := by
          by_cases h : n + topS d t mi < 5
          · rw [show (n : Int) + topS d t mi = ((n + topS d t mi : Nat) : Int) by omega, rd_ok h]
            exact hhi _ (by omega) h
          · rw [rd, if_neg (by omega), bitsN_0.mpr (fun i hi => ?_)]
            · rfl
            · cases hq : occ d t mi 25 (n + topS d t mi) i
              · rfl
              · simp only [occ, List.any_eq_true, List.mem_range, Bool.and_eq_true, beq_iff_eq] at hq
                obtain ⟨k, hk, ⟨-, hk2⟩, -⟩ := hq
                have := tR_le (t := t) (mi := mi) hk
                omega
        rw [hrd]
        refine w_iload C dX2_trace_160 rfl ?_
        refine w_ishr C dX2_trace_162 (Nat.lt_trans bits5 (by decide)) (by omega) ?_
        rw [nc_shift]
        refine w_callN C dX2_trace_163 (c_X6_store hl IA_31 ho2 n _ (by omega)) mX6_store sX6_store lk_X2_44 rfl rfl ⟨by decide, by decide, by decide, by decide⟩ (Nat.le_of_ble_eq_true rfl) (fun _ _ h => h.elim) ⟨by decide, by decide⟩ (fun r_ M_ q163 => ?_)
        obtain ⟨q163, rfl⟩ := q163
        rw [wr_ok (by omega)] at q163
        subst q163
        refine w_iinc C dX2_trace_166 rfl (by decide) ?_
        refine w_goto C dX2_trace_169 ?_
        refine Wm.lsub (lv' := [(0, aO 5 o), (2, aI u), (3, aI v), (4, aI (bitsN (rocc d t mi 25) 5 : Nat)), (5, aI (bitsN (cocc d t mi 25) 5 : Nat)), (6, aI (topS d t mi)), (7, aI (leftS d t mi)), (8, aI ((n + 1 : Nat) : Int))]) ⟨rfl, rfl, rfl, rfl, rfl, rfl, rfl, rfl, trivial⟩ (ih (n + 1) _ (by omega) (hF.uI ⟨rfl, rfl⟩) (fun r hr => ?_) (fun r hr1 hr2 => ?_))
        · rw [uI_get]
          by_cases hq : r = n
          · rw [if_pos ⟨rfl, rfl, hq⟩, hq]
          · rw [if_neg (fun q => hq q.2.2)]
            exact hlo r (by omega)
        · rw [uI_get, if_neg (fun q => by omega)]
          exact hhi r (by omega) hr2
  have L1 : ∀ (b n x y : Nat) (M1 : Mem), n + b = 25 → n = 5 * x + y → y ≤ 5 → x < 5 → Fr (fun k i => k = 31 ∧ i = o) M M1 → (∀ r, r < 5 → M1.1 31 o r = (bitsN (occ d t mi n r) 5 : Nat)) → Wm p l e (rmd 3 0 0) s m args below meth c 10 D cA b0 0 0 (vx_MQ below (mQ D cA b0 ad (cnt ns nt) (fun r9 M' => Fr (trK o) M M' ∧ M'.1 5 o 0 = t ∧ M'.1 5 o 1 = mi ∧ OuOK d t mi u v o M' ∧ r9 = none)) (mX D cA b0 ad (cnt ns nt) noX) args s 0 0 b0) 26 [(0, aO 5 o), (1, aO 30 j), (2, aI u), (3, aI v), (4, aI (bitsN (rocc d t mi n) 5 : Nat)), (5, aI (bitsN (cocc d t mi n) 5 : Nat)), (6, aI x), (7, aI y)] [] ad (cnt ns nt) M1 := by
    intro b
    induction b with
    | zero =>
      intro n x y M1 hn hxy hy hx hF hb
      have e25 : n = 25 := by omega
      subst e25
      refine w_iload C dX2_trace_26 rfl ?_
      refine w_iconst C dX2_trace_28 ?_
      refine w_icmp_ge C dX2_trace_29 (by omega) (by omega) (fun h29 => ?_) (fun h29 => ?_)
      · refine w_iinc C dX2_trace_113 rfl (by decide) ?_
        refine w_goto C dX2_trace_116 ?_
        refine w_iload C dX2_trace_17 rfl ?_
        refine w_iconst C dX2_trace_19 ?_
        refine w_icmp_ge C dX2_trace_20 (by omega) (by omega) (fun h20 => ?_) (fun h20 => ?_)
        · refine w_iload C dX2_trace_119 rfl ?_
          refine w_callN C dX2_trace_121 (c_X6_firstBit hl _ (Nat.lt_trans bits5 (by decide))) mX6_firstBit sX6_firstBit lk_X2_48 rfl rfl ⟨by decide, by decide, by decide, by decide⟩ (Nat.le_of_ble_eq_true rfl) (fun _ _ h => h.elim) ⟨by decide, by decide⟩ (fun r_ M_ q121 => ?_)
          obtain ⟨rfl, rfl⟩ := q121
          rw [fstB_bits]
          refine w_istore C dX2_trace_124 (by decide) ?_
          refine w_iload C dX2_trace_126 rfl ?_
          refine w_callN C dX2_trace_128 (c_X6_firstBit hl _ (Nat.lt_trans bits5 (by decide))) mX6_firstBit sX6_firstBit lk_X2_48 rfl rfl ⟨by decide, by decide, by decide, by decide⟩ (Nat.le_of_ble_eq_true rfl) (fun _ _ h => h.elim) ⟨by decide, by decide⟩ (fun r_ M_ q128 => ?_)
          obtain ⟨rfl, rfl⟩ := q128
          rw [fstB_bits]
          refine w_istore C dX2_trace_131 (by decide) ?_
          refine w_iconst C dX2_trace_133 ?_
          refine w_istore C dX2_trace_134 (by decide) ?_
          exact Wm.lsub (lv' := [(0, aO 5 o), (2, aI u), (3, aI v), (4, aI (bitsN (rocc d t mi 25) 5 : Nat)), (5, aI (bitsN (cocc d t mi 25) 5 : Nat)), (6, aI (topS d t mi)), (7, aI (leftS d t mi)), (8, aI ((0 : Nat) : Int))]) ⟨rfl, rfl, rfl, rfl, rfl, rfl, rfl, rfl, trivial⟩ (L2 5 0 _ rfl hF (fun r h => absurd h (Nat.not_lt_zero r)) (fun r _ h => hb r h))
        · omega
      · omega
    | succ b ih =>
      have body : ∀ (n x y : Nat) (M1 : Mem), n + (b + 1) = 25 → n = 5 * x + y → y < 5 → x < 5 → Fr (fun k i => k = 31 ∧ i = o) M M1 → (∀ r, r < 5 → M1.1 31 o r = (bitsN (occ d t mi n r) 5 : Nat)) → Wm p l e (rmd 3 0 0) s m args below meth c 10 D cA b0 0 0 (vx_MQ below (mQ D cA b0 ad (cnt ns nt) (fun r9 M' => Fr (trK o) M M' ∧ M'.1 5 o 0 = t ∧ M'.1 5 o 1 = mi ∧ OuOK d t mi u v o M' ∧ r9 = none)) (mX D cA b0 ad (cnt ns nt) noX) args s 0 0 b0) 26 [(0, aO 5 o), (1, aO 30 j), (2, aI u), (3, aI v), (4, aI (bitsN (rocc d t mi n) 5 : Nat)), (5, aI (bitsN (cocc d t mi n) 5 : Nat)), (6, aI x), (7, aI y)] [] ad (cnt ns nt) M1 := by
        intro n x y M1 hn hxy hy hx hF hb
        have f0 := (hF 5 o (fun q => absurd q.1 (by decide))).1
        have f30 := (hF 30 j (fun q => absurd q.1 (by decide))).1
        have nlt : n < 25 := by omega
        have tr := tR_le (t := t) (mi := mi) nlt
        have tc := tC_le (t := t) (mi := mi) nlt
        refine w_iload C dX2_trace_26 rfl ?_
        refine w_iconst C dX2_trace_28 ?_
        refine w_icmp_ge C dX2_trace_29 (by omega) (by omega) (fun h29 => ?_) (fun h29 => ?_)
        · omega
        · refine w_aload_n C dX2_trace_32 rfl ?_
          refine w_iload C dX2_trace_33 rfl ?_
          refine w_callN C dX2_trace_35 (c_X6_entry hl IA_30 hj x (by omega)) mX6_entry sX6_entry lk_X2_29 rfl rfl ⟨by decide, by decide, by decide, by decide⟩ (Nat.le_of_ble_eq_true rfl) (fun _ _ h => h.elim) ⟨by decide, by decide⟩ (fun r_ M_ q35 => ?_)
          obtain ⟨rfl, rfl⟩ := q35
          rw [rd_ok hx, f30, hd x hx]
          refine w_iload C dX2_trace_38 rfl ?_
          refine w_callN C dX2_trace_40 (c_X6_hasBit hl _ y (Nat.lt_trans bits5 (by decide)) (by omega)) mX6_hasBit sX6_hasBit lk_X2_33 rfl rfl ⟨by decide, by decide, by decide, by decide⟩ (Nat.le_of_ble_eq_true rfl) (fun _ _ h => h.elim) ⟨by decide, by decide⟩ (fun r_ M_ q40 => ?_)
          obtain ⟨rfl, rfl⟩ := q40
          rw [bitsN_tb, decide_eq_true hy, Bool.true_and, ← hxy]
          have h01 := b2_01 (d n = true)
          refine w_if_eq C dX2_trace_43 (by omega) (fun h43 => ?_) (fun h43 => ?_)
          · have hdn : d n = false := by
              cases hq : d n
              · rfl
              · rw [b2_t hq] at h43; omega
            refine w_iinc C dX2_trace_107 rfl (by decide) ?_
            refine w_goto C dX2_trace_110 ?_
            have e1 : bitsN (rocc d t mi (n + 1)) 5 = bitsN (rocc d t mi n) 5 := bitsN_cg fun i _ => by rw [rocc_s, hdn]; simp
            have e2 : bitsN (cocc d t mi (n + 1)) 5 = bitsN (cocc d t mi n) 5 := bitsN_cg fun i _ => by rw [cocc_s, hdn]; simp
            refine Wm.lsub (lv' := [(0, aO 5 o), (1, aO 30 j), (2, aI u), (3, aI v), (4, aI (bitsN (rocc d t mi (n + 1)) 5 : Nat)), (5, aI (bitsN (cocc d t mi (n + 1)) 5 : Nat)), (6, aI x), (7, aI ((y + 1 : Nat) : Int))]) ⟨rfl, rfl, rfl, rfl, by rw [e1]; rfl, by rw [e2]; rfl, rfl, rfl, trivial⟩ (ih (n + 1) x (y + 1) _ (by omega) (by omega) (by omega) hx hF (fun r hr => ?_))
            rw [hb r hr]
            exact congrArg (fun z : Nat => (z : Int)) (bitsN_cg fun i _ => by rw [occ_s, hdn]; simp)
          · have hdn : d n = true := Decidable.byContradiction fun q => h43 (b2_f q)
            refine w_aload_n C dX2_trace_46 rfl ?_
            refine w_iload C dX2_trace_47 rfl ?_
            refine w_iload C dX2_trace_49 rfl ?_
            refine w_callV C dX2_trace_51 (c_X2_turnedRow hl ho (by rw [f0]; exact h0) (by rw [f0]; exact h1) ht hm x y hx hy) mX2_turnedRow vX2_turnedRow lk_X2_37 (by first | assumption | exact Nat.zero_lt_one | exact Nat.zero_lt_two | exact Nat.one_lt_two) rfl rfl rfl rfl ⟨by decide, by decide, by decide, by decide⟩ (Nat.le_of_ble_eq_true rfl) (fun _ _ h => h.elim) ⟨by decide, by decide⟩ (fun r_ M_ q51 => ?_)
            obtain ⟨rfl, rfl⟩ := q51
            rw [← hxy]
            refine w_istore C dX2_trace_54 (by decide) ?_
            refine w_aload_n C dX2_trace_56 rfl ?_
            refine w_iload C dX2_trace_57 rfl ?_
            refine w_iload C dX2_trace_59 rfl ?_
            refine w_callV C dX2_trace_61 (c_X2_turnedColumn hl ho (by rw [f0]; exact h0) (by rw [f0]; exact h1) ht hm x y hx hy) mX2_turnedColumn vX2_turnedColumn lk_X2_41 (by first | assumption | exact Nat.zero_lt_one | exact Nat.zero_lt_two | exact Nat.one_lt_two) rfl rfl rfl rfl ⟨by decide, by decide, by decide, by decide⟩ (Nat.le_of_ble_eq_true rfl) (fun _ _ h => h.elim) ⟨by decide, by decide⟩ (fun r_ M_ q61 => ?_)
            obtain ⟨rfl, rfl⟩ := q61
            rw [← hxy]
            refine w_istore C dX2_trace_64 (by decide) ?_
            refine w_aload_n C dX2_trace_66 rfl ?_
            refine g_X2_19 C dX2_trace_67 (by first | assumption | exact Nat.zero_lt_one | exact Nat.zero_lt_two | exact Nat.one_lt_two) ?_
            refine w_iload C dX2_trace_70 rfl ?_
            refine w_aload_n C dX2_trace_72 rfl ?_
            refine g_X2_19 C dX2_trace_73 (by first | assumption | exact Nat.zero_lt_one | exact Nat.zero_lt_two | exact Nat.one_lt_two) ?_
            refine w_iload C dX2_trace_76 rfl ?_
            refine w_callN C dX2_trace_78 (c_X6_entry hl IA_31 ho2 (tR t mi n) (by omega)) mX6_entry sX6_entry lk_X2_29 rfl rfl ⟨by decide, by decide, by decide, by decide⟩ (Nat.le_of_ble_eq_true rfl) (fun _ _ h => h.elim) ⟨by decide, by decide⟩ (fun r_ M_ q78 => ?_)
            obtain ⟨rfl, rfl⟩ := q78
            rw [rd_ok (by omega), hb _ (by omega)]
            refine w_iconst C dX2_trace_81 ?_
            refine w_iload C dX2_trace_82 rfl ?_
            have p1 : 1 * 2 ^ tC t mi n ≤ 2 ^ 4 := by rw [Nat.one_mul]; exact Nat.pow_le_pow_right (by decide) tc
            have p2 : 1 * 2 ^ tR t mi n ≤ 2 ^ 4 := by rw [Nat.one_mul]; exact Nat.pow_le_pow_right (by decide) tr
            refine w_ishl (x := 1) C dX2_trace_84 (by omega) ?_
            refine w_ior C dX2_trace_85 (Nat.lt_trans bits5 (by decide)) (by omega) ?_
            have eo : bitsN (occ d t mi n (tR t mi n)) 5 ||| 1 * 2 ^ tC t mi n = bitsN (occ d t mi (n + 1) (tR t mi n)) 5 := bits_or (by omega) fun i _ => by rw [occ_s, hdn]; simp
            rw [eo]
            refine w_callN C dX2_trace_86 (c_X6_store hl IA_31 ho2 (tR t mi n) _ (by omega)) mX6_store sX6_store lk_X2_44 rfl rfl ⟨by decide, by decide, by decide, by decide⟩ (Nat.le_of_ble_eq_true rfl) (fun _ _ h => h.elim) ⟨by decide, by decide⟩ (fun r_ M_ q86 => ?_)
            obtain ⟨q86, rfl⟩ := q86
            rw [wr_ok (by omega)] at q86
            subst q86
            refine w_iload C dX2_trace_89 rfl ?_
            refine w_iconst C dX2_trace_91 ?_
            refine w_iload C dX2_trace_92 rfl ?_
            refine w_ishl (x := 1) C dX2_trace_94 (by omega) ?_
            refine w_ior C dX2_trace_95 (Nat.lt_trans bits5 (by decide)) (by omega) ?_
            refine w_istore C dX2_trace_96 (by decide) ?_
            refine w_iload C dX2_trace_98 rfl ?_
            refine w_iconst C dX2_trace_100 ?_
            refine w_iload C dX2_trace_101 rfl ?_
            refine w_ishl (x := 1) C dX2_trace_103 (by omega) ?_
            refine w_ior C dX2_trace_104 (Nat.lt_trans bits5 (by decide)) (by omega) ?_
            refine w_istore C dX2_trace_105 (by decide) ?_
            refine w_iinc C dX2_trace_107 rfl (by decide) ?_
            refine w_goto C dX2_trace_110 ?_
            have e1 : bitsN (rocc d t mi n) 5 ||| 1 * 2 ^ tR t mi n = bitsN (rocc d t mi (n + 1)) 5 := bits_or (by omega) fun i _ => by rw [rocc_s, hdn]; simp
            have e2 : bitsN (cocc d t mi n) 5 ||| 1 * 2 ^ tC t mi n = bitsN (cocc d t mi (n + 1)) 5 := bits_or (by omega) fun i _ => by rw [cocc_s, hdn]; simp
            refine Wm.lsub (lv' := [(0, aO 5 o), (1, aO 30 j), (2, aI u), (3, aI v), (4, aI (bitsN (rocc d t mi (n + 1)) 5 : Nat)), (5, aI (bitsN (cocc d t mi (n + 1)) 5 : Nat)), (6, aI x), (7, aI ((y + 1 : Nat) : Int))]) ⟨rfl, rfl, rfl, rfl, by rw [← e1]; rfl, by rw [← e2]; rfl, rfl, rfl, trivial⟩ (ih (n + 1) x (y + 1) _ (by omega) (by omega) (by omega) hx (hF.uI ⟨rfl, rfl⟩) (fun r hr => ?_))
            rw [uI_get]
            by_cases hq : r = tR t mi n
            · rw [if_pos ⟨rfl, rfl, hq⟩, hq]
            · rw [if_neg (fun q => hq q.2.2), hb r hr]
              exact congrArg (fun z : Nat => (z : Int)) (bitsN_cg fun i _ => by
                rw [occ_s, beq_eq_false_iff_ne.mpr (fun q => hq q.symm)]; simp)
      intro n x y M1 hn hxy hy hx hF hb
      by_cases h5 : y < 5
      · exact body n x y M1 hn hxy h5 hx hF hb
      · refine w_iload C dX2_trace_26 rfl ?_
        refine w_iconst C dX2_trace_28 ?_
        refine w_icmp_ge C dX2_trace_29 (by omega) (by omega) (fun h29 => ?_) (fun h29 => ?_)
        · refine w_iinc C dX2_trace_113 rfl (by decide) ?_
          refine w_goto C dX2_trace_116 ?_
          refine w_iload C dX2_trace_17 rfl ?_
          refine w_iconst C dX2_trace_19 ?_
          refine w_icmp_ge C dX2_trace_20 (by omega) (by omega) (fun h20 => ?_) (fun h20 => ?_)
          · omega
          · refine w_iconst C dX2_trace_23 ?_
            refine w_istore C dX2_trace_24 (by decide) ?_
            exact Wm.lsub (lv' := [(0, aO 5 o), (1, aO 30 j), (2, aI u), (3, aI v), (4, aI (bitsN (rocc d t mi n) 5 : Nat)), (5, aI (bitsN (cocc d t mi n) 5 : Nat)), (6, aI ((x + 1 : Nat) : Int)), (7, aI ((0 : Nat) : Int))]) ⟨rfl, rfl, rfl, rfl, rfl, rfl, rfl, rfl, trivial⟩ (body n (x + 1) 0 M1 hn (by omega) (by omega) (by omega) hF hb)
        · omega
  refine w_aload_n C dX2_trace_0 rfl ?_
  refine g_X2_19 C dX2_trace_1 (by first | assumption | exact Nat.zero_lt_one | exact Nat.zero_lt_two | exact Nat.one_lt_two) ?_
  refine w_iconst C dX2_trace_4 ?_
  refine w_callS C dX2_trace_5 (c_J7_fill hl IA_31 ho2 0) mJ7_fill_53178 sJ7_fill_53178 lk_X2_23 rfl rfl ⟨by decide, by decide, by decide, by decide⟩ (Nat.le_of_ble_eq_true rfl) (fun _ _ h => h.elim) ⟨by decide, by decide⟩ (fun r_ M_ q5 => ?_)
  obtain ⟨f1, f2, f3, f4, rfl⟩ := q5
  refine w_iconst C dX2_trace_8 ?_
  refine w_istore C dX2_trace_9 (by decide) ?_
  refine w_iconst C dX2_trace_11 ?_
  refine w_istore C dX2_trace_12 (by decide) ?_
  refine w_iconst C dX2_trace_14 ?_
  refine w_istore C dX2_trace_15 (by decide) ?_
  refine w_iload C dX2_trace_17 rfl ?_
  refine w_iconst C dX2_trace_19 ?_
  refine w_icmp_ge C dX2_trace_20 (by omega) (by omega) (fun h20 => ?_) (fun h20 => ?_)
  · omega
  · refine w_iconst C dX2_trace_23 ?_
    refine w_istore C dX2_trace_24 (by decide) ?_
    have z0 : bitsN (rocc d t mi 0) 5 = 0 := bitsN_0.mpr fun i _ => rfl
    have z1 : bitsN (cocc d t mi 0) 5 = 0 := bitsN_0.mpr fun i _ => rfl
    refine Wm.lsub (lv' := [(0, aO 5 o), (1, aO 30 j), (2, aI u), (3, aI v), (4, aI (bitsN (rocc d t mi 0) 5 : Nat)), (5, aI (bitsN (cocc d t mi 0) 5 : Nat)), (6, aI ((0 : Nat) : Int)), (7, aI ((0 : Nat) : Int))]) ⟨rfl, rfl, rfl, rfl, by rw [z0]; rfl, by rw [z1]; rfl, rfl, rfl, trivial⟩ (L1 25 0 0 0 _ rfl rfl (by omega) (by omega) f1 (fun r hr => ?_))
    rw [f3 r hr, show bitsN (occ d t mi 0 r) 5 = 0 from bitsN_0.mpr fun i _ => rfl]
    rfl
end Tr
