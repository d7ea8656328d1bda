-- MODEL
/-! the model: the cells of a piece as they lie -/
theorem uI_ne {M : Mem} {k i s : Nat} {v : Int} {k' i' s' : Nat} (h : ¬ (k' = k ∧ i' = i ∧ s' = s)) : (uI M k i s v).1 k' i' s' = M.1 k' i' s' := if_neg h
theorem uI_eq {M : Mem} {k i s : Nat} {v : Int} : (uI M k i s v).1 k i s = v := if_pos ⟨rfl, rfl, rfl⟩
def cl (d : Nat → Bool) (t w : Nat) : List (Nat × Nat) := ((List.range 25).filter d).map fun k => (tR t w k - topS d t w, tC t w k - leftS d t w)
def rwc (d : Nat → Bool) (t w n : Nat) : List (Nat × Nat) := ((List.range n).filter d).map fun k => (tR t w k, tC t w k)
def mnF (f : Nat → Nat) (d : Nat → Bool) : Nat → Nat
  | 0 => 5
  | n + 1 => if d n = true ∧ f n < mnF f d n then f n else mnF f d n
theorem mnF_5 (f : Nat → Nat) (d : Nat → Bool) (n : Nat) : mnF f d n ≤ 5 := by
  induction n with
  | zero => exact Nat.le_refl _
  | succ n ih =>
    unfold mnF
    split <;> omega
theorem mnF_le {f : Nat → Nat} {d : Nat → Bool} {n k : Nat} (hk : k < n) (hd : d k = true) : mnF f d n ≤ f k := by
  induction n with
  | zero => omega
  | succ n ih =>
    unfold mnF
    by_cases h : k = n
    · subst h
      split
      · exact Nat.le_refl _
      · rename_i h9
        rcases Nat.lt_or_ge (f k) (mnF f d k) with q | q
        · exact absurd ⟨hd, q⟩ h9
        · exact q
    · have := ih (by omega)
      split <;> omega
theorem mnF_at (f : Nat → Nat) (d : Nat → Bool) (n : Nat) : mnF f d n = 5 ∨ ∃ k, k < n ∧ d k = true ∧ f k = mnF f d n := by
  induction n with
  | zero => exact Or.inl rfl
  | succ n ih =>
    unfold mnF
    split
    · rename_i h
      exact Or.inr ⟨n, Nat.lt_succ_self n, h.1, rfl⟩
    · rcases ih with h | ⟨k, h1, h2, h3⟩
      · exact Or.inl h
      · exact Or.inr ⟨k, by omega, h2, h3⟩
theorem mnF_lst {f : Nat → Nat} {d : Nat → Bool} {b : Nat → Bool} (hb : ∀ r, b r = true ↔ ∃ k, k < 25 ∧ d k = true ∧ f k = r) : mnF f d 25 = lst5 b := by
  refine Nat.le_antisymm ?_ ?_
  · rcases Nat.lt_or_ge (lst5 b) 5 with h | h
    · obtain ⟨k, hk, hd, e⟩ := (hb _).mp (lst5_yes h)
      rw [← e]
      exact mnF_le hk hd
    · have := mnF_5 f d 25
      omega
  · rcases mnF_at f d 25 with h | ⟨k, hk, hd, e⟩
    · rw [h]
      exact lst5_le b
    · rw [← e]
      exact lst5_min ((hb _).mpr ⟨k, hk, hd, rfl⟩)
theorem top_mn (d : Nat → Bool) (t w : Nat) : mnF (tR t w) d 25 = topS d t w := mnF_lst fun r => rowB_iff
theorem left_mn (d : Nat → Bool) (t w : Nat) : mnF (tC t w) d 25 = leftS d t w := mnF_lst fun r => colB_iff
theorem rwc_len (d : Nat → Bool) (t w n : Nat) : (rwc d t w n).length ≤ n := by
  unfold rwc
  rw [List.length_map]
  refine Nat.le_trans (List.length_filter_le _ _) ?_
  rw [List.length_range]
  exact Nat.le_refl _
theorem rwc_st (d : Nat → Bool) (t w n : Nat) : rwc d t w (n + 1) = if d n = true then rwc d t w n ++ [(tR t w n, tC t w n)] else rwc d t w n := by
  unfold rwc
  rw [List.range_succ, List.filter_append, List.map_append]
  cases h : d n with
  | true => simp [h]
  | false => simp [h]
theorem cl_rwc (d : Nat → Bool) (t w : Nat) : cl d t w = (rwc d t w 25).map fun p => (p.1 - topS d t w, p.2 - leftS d t w) := by
  unfold cl rwc
  rw [List.map_map]
  rfl
theorem mem_cl {d : Nat → Bool} {t w : Nat} {p : Nat × Nat} : p ∈ cl d t w ↔ nc d t w p.1 p.2 = true := by
  unfold cl
  rw [nc_iff, List.mem_map]
  constructor
  · rintro ⟨k, hk, rfl⟩
    rw [List.mem_filter, List.mem_range] at hk
    have c1 : topS d t w ≤ tR t w k := lst5_min (rowB_iff.mpr ⟨k, hk.1, hk.2, rfl⟩)
    have c2 : leftS d t w ≤ tC t w k := lst5_min (colB_iff.mpr ⟨k, hk.1, hk.2, rfl⟩)
    exact ⟨k, hk.1, hk.2, by show _ = tR t w k - topS d t w + _; omega, by show _ = tC t w k - leftS d t w + _; omega⟩
  · rintro ⟨k, h1, h2, h3, h4⟩
    exact ⟨k, List.mem_filter.mpr ⟨List.mem_range.mpr h1, h2⟩, by rw [h3, h4, Nat.add_sub_cancel, Nat.add_sub_cancel]⟩
theorem cl_len (d : Nat → Bool) (t w : Nat) : (cl d t w).length = (List.range 25).countP d := by
  unfold cl
  rw [List.length_map, List.countP_eq_length_filter]
/-- what the model holds of the piece that it turned last -/
def CelM (S : Sg) (j t w : Nat) (M : Mem) : Prop := M.1 40 0 33 = (cl (dB S j) t w).length ∧ (∀ i p, (cl (dB S j) t w)[i]? = some p → M.1 63 0 i = (p.1 : Nat) ∧ M.1 64 0 i = (p.2 : Nat)) ∧ M.1 40 0 36 = mkR S j t w
theorem CelM.le {S : Sg} {j t w : Nat} : (cl (dB S j) t w).length ≤ 25 := by
  rw [cl_len]
  exact Nat.le_trans List.countP_le_length (by rw [List.length_range]; exact Nat.le_refl _)
def tq (t r c : Nat) : Nat := if t = 0 then r else if t = 1 then c else if t = 2 then 4 - r else 4 - c
def tqc (t r c : Nat) : Nat := if t = 0 then c else if t = 1 then 4 - r else if t = 2 then 4 - c else r
theorem tq_R (t w k : Nat) : tq t (k / 5) (if w = 1 then 4 - k % 5 else k % 5) = tR t w k := rfl
theorem tq_C (t w k : Nat) : tqc t (k / 5) (if w = 1 then 4 - k % 5 else k % 5) = tC t w k := rfl
theorem dr_iff {S : Sg} {j k : Nat} : dB S j k = true ↔ drS S j k ≠ 0 := by
  unfold dB
  exact decide_eq_true_iff
section Mo
variable {l : Launch} {b0 : Nat → Prop} {ad : Ads} {M : Mem}
theorem c_X7_turnedRow (hl : l.stackTraces = false) (r c' t : Nat) (hr9 : r ≤ 4) (hc : c' ≤ 4) (ht : t < 4) : Con l b0 yX7_turnedRow cX7_turnedRow 3 (some .int) 1 0 0 [aI r, aI c', aI t] ad cntM M (fun r9 M' => M' = M ∧ r9 = some (aI (tq t r c' : Nat))) noX := by
  refine Con.of hl pl_X7 (Nat.le_of_ble_eq_true rfl) ?_
  intro D cA p e s m args below meth c C hr
  refine w_iload_n C dX7_turnedRow_0 rfl ?_
  refine w_if_ne C dX7_turnedRow_1 (by omega) (fun h1 => ?_) (fun h1 => ?_)
  · refine w_iload_n C dX7_turnedRow_8 rfl ?_
    refine w_iconst C dX7_turnedRow_9 ?_
    refine w_icmp_ne C dX7_turnedRow_10 (by omega) (by omega) (fun h10 => ?_) (fun h10 => ?_)
    · refine w_iload_n C dX7_turnedRow_17 rfl ?_
      refine w_iconst C dX7_turnedRow_18 ?_
      refine w_icmp_ne C dX7_turnedRow_19 (by omega) (by omega) (fun h19 => ?_) (fun h19 => ?_)
      · refine w_iconst C dX7_turnedRow_28 ?_
        refine w_iload_n C dX7_turnedRow_29 rfl ?_
        refine w_isub C dX7_turnedRow_30 ?_
        refine w_iret C hr dX7_turnedRow_31 rfl (⟨rfl, congrArg (fun z : Int => some (aI z)) (by unfold tq; (repeat' split) <;> omega)⟩) (by decide) (by decide)
      · refine w_iconst C dX7_turnedRow_22 ?_
        refine w_iload_n C dX7_turnedRow_23 rfl ?_
        refine w_isub C dX7_turnedRow_24 ?_
        refine w_goto C dX7_turnedRow_25 ?_
        refine w_iret C hr dX7_turnedRow_31 rfl (⟨rfl, congrArg (fun z : Int => some (aI z)) (by unfold tq; (repeat' split) <;> omega)⟩) (by decide) (by decide)
    · refine w_iload_n C dX7_turnedRow_13 rfl ?_
      refine w_goto C dX7_turnedRow_14 ?_
      refine w_iret C hr dX7_turnedRow_31 rfl (⟨rfl, congrArg (fun z : Int => some (aI z)) (by unfold tq; (repeat' split) <;> omega)⟩) (by decide) (by decide)
  · refine w_iload_n C dX7_turnedRow_4 rfl ?_
    refine w_goto C dX7_turnedRow_5 ?_
    refine w_iret C hr dX7_turnedRow_31 rfl (⟨rfl, congrArg (fun z : Int => some (aI z)) (by unfold tq; (repeat' split) <;> omega)⟩) (by decide) (by decide)
theorem c_X7_turnedColumn (hl : l.stackTraces = false) (r c' t : Nat) (hr9 : r ≤ 4) (hc : c' ≤ 4) (ht : t < 4) : Con l b0 yX7_turnedColumn cX7_turnedColumn 3 (some .int) 1 0 0 [aI r, aI c', aI t] ad cntM M (fun r9 M' => M' = M ∧ r9 = some (aI (tqc t r c' : Nat))) noX := by
  refine Con.of hl pl_X7 (Nat.le_of_ble_eq_true rfl) ?_
  intro D cA p e s m args below meth c C hr
  refine w_iload_n C dX7_turnedColumn_0 rfl ?_
  refine w_if_ne C dX7_turnedColumn_1 (by omega) (fun h1 => ?_) (fun h1 => ?_)
  · refine w_iload_n C dX7_turnedColumn_8 rfl ?_
    refine w_iconst C dX7_turnedColumn_9 ?_
    refine w_icmp_ne C dX7_turnedColumn_10 (by omega) (by omega) (fun h10 => ?_) (fun h10 => ?_)
    · refine w_iload_n C dX7_turnedColumn_19 rfl ?_
      refine w_iconst C dX7_turnedColumn_20 ?_
      refine w_icmp_ne C dX7_turnedColumn_21 (by omega) (by omega) (fun h21 => ?_) (fun h21 => ?_)
      · refine w_iload_n C dX7_turnedColumn_30 rfl ?_
        refine w_iret C hr dX7_turnedColumn_31 rfl (⟨rfl, congrArg (fun z : Int => some (aI z)) (by unfold tqc; (repeat' split) <;> omega)⟩) (by decide) (by decide)
      · refine w_iconst C dX7_turnedColumn_24 ?_
        refine w_iload_n C dX7_turnedColumn_25 rfl ?_
        refine w_isub C dX7_turnedColumn_26 ?_
        refine w_goto C dX7_turnedColumn_27 ?_
        refine w_iret C hr dX7_turnedColumn_31 rfl (⟨rfl, congrArg (fun z : Int => some (aI z)) (by unfold tqc; (repeat' split) <;> omega)⟩) (by decide) (by decide)
    · refine w_iconst C dX7_turnedColumn_13 ?_
      refine w_iload_n C dX7_turnedColumn_14 rfl ?_
      refine w_isub C dX7_turnedColumn_15 ?_
      refine w_goto C dX7_turnedColumn_16 ?_
      refine w_iret C hr dX7_turnedColumn_31 rfl (⟨rfl, congrArg (fun z : Int => some (aI z)) (by unfold tqc; (repeat' split) <;> omega)⟩) (by decide) (by decide)
  · refine w_iload_n C dX7_turnedColumn_4 rfl ?_
    refine w_goto C dX7_turnedColumn_5 ?_
    refine w_iret C hr dX7_turnedColumn_31 rfl (⟨rfl, congrArg (fun z : Int => some (aI z)) (by unfold tqc; (repeat' split) <;> omega)⟩) (by decide) (by decide)
def TrM (M M' : Mem) : Prop := (∀ s, s ≠ 33 → s ≠ 36 → M'.1 40 0 s = M.1 40 0 s) ∧ (∀ k, k ≠ 40 → k ≠ 63 → k ≠ 64 → ∀ i, M'.1 k 0 i = M.1 k 0 i) ∧ M'.2 = M.2
theorem TrM.rf {M : Mem} : TrM M M := ⟨fun _ _ _ => rfl, fun _ _ _ _ _ => rfl, rfl⟩
theorem TrM.tr {M M' M'' : Mem} (h1 : TrM M M') (h2 : TrM M' M'') : TrM M M'' := ⟨fun s a b => (h2.1 s a b).trans (h1.1 s a b), fun k a b c i => (h2.2.1 k a b c i).trans (h1.2.1 k a b c i), h2.2.2.trans h1.2.2⟩
theorem TrM.uI {M M' : Mem} {k s : Nat} {v : Int} (h : TrM M M') (hk : k = 40 ∧ (s = 33 ∨ s = 36) ∨ k = 63 ∨ k = 64) : TrM M (uI M' k 0 s v) :=
  ⟨fun s' a b => by rw [uI_get, if_neg (by omega)]; exact h.1 s' a b, fun k' a b c i => by rw [uI_get, if_neg (by omega)]; exact h.2.1 k' a b c i, h.2.2⟩
theorem TrM.fr {M M' : Mem} (h : TrM M M') : FrM M M' := ⟨fun s a b => h.1 s (by omega) (by omega), by rw [h.2.2], fun k a b j => h.2.1 k (by omega) (by omega) (by omega) j⟩
theorem c_X7_turns (hl : l.stackTraces = false) {S : Sg} {P : List Pc} {nx : Nat} (hG : GInv S) (hR : RepMo S P nx M) (j : Nat) (hj : j < 8) (t w : Nat) (ht : t < 4) (hw : w ≤ 1) : Con l b0 yX7_turns cX7_turns 8 none 2 0 0 [aO 40 0, aI j, aI t, aI w] ad cntM M (fun r9 M' => TrM M M' ∧ CelM S j t w M' ∧ r9 = none) noX := by
  obtain ⟨p1, p2, p3, p4, p5, p6, p7, p8, p9⟩ := hG.2.2.2.2.2.2.2.2.2.1 j
  obtain ⟨q1, q2, q3, q4, q5, q6, q7, q8, q9⟩ := hR.2.2.1 j hj
  refine Con.of hl pl_X7 (Nat.le_of_ble_eq_true rfl) ?_
  intro D cA p e s m args below meth c C hr
  have L2 : ∀ (b n : Nat) (M1 : Mem), n + b = (rwc (dB S j) t w 25).length → TrM M M1 → M1.1 40 0 33 = (rwc (dB S j) t w 25).length → (∀ i p, (rwc (dB S j) t w 25)[i]? = some p → M1.1 63 0 i = (if i < n then p.1 - topS (dB S j) t w else p.1 : Nat) ∧ M1.1 64 0 i = (if i < n then p.2 - leftS (dB S j) t w else p.2 : Nat)) → Wm p l e (rmd 2 0 0) s m args below meth c 8 D cA b0 0 0 (vx_MQ below (mQ D cA b0 ad cntM (fun r9 M' => TrM M M' ∧ CelM S j t w M' ∧ r9 = none)) (mX D cA b0 ad cntM noX) args s 0 0 b0) 172 [(0, aO 40 0), (1, aI j), (2, aI t), (3, aI w), (4, aI (topS (dB S j) t w : Nat)), (5, aI (leftS (dB S j) t w : Nat)), (6, aI n)] [] ad cntM M1 := by
    intro b
    have hL25 := rwc_len (dB S j) t w 25
    induction b with
    | zero =>
      intro n M1 hn hT hCM hE
      have e13 := (hT.2.1 50 (by decide) (by decide) (by decide) j).trans q5
      have e14 := (hT.2.1 51 (by decide) (by decide) (by decide) j).trans q6
      have hmk : mkR S j t w = (tq t (mrS S j) (if w = 1 then 4 - mcS S j else mcS S j) : Nat) - (topS (dB S j) t w : Int) := by
        unfold mkR
        rw [← tq_R, show (5 * mrS S j + mcS S j) / 5 = mrS S j by omega, show (5 * mrS S j + mcS S j) % 5 = mcS S j by omega]
      have K239 : Wm p l e (rmd 2 0 0) s m args below meth c 8 D cA b0 0 0 (vx_MQ below (mQ D cA b0 ad cntM (fun r9 M' => TrM M M' ∧ CelM S j t w M' ∧ r9 = none)) (mX D cA b0 ad cntM noX) args s 0 0 b0) 239 [(0, aO 40 0), (2, aI t), (4, aI (topS (dB S j) t w : Nat))] [aI ((if w = 1 then 4 - mcS S j else mcS S j : Nat) : Int), aI (mrS S j : Nat), aO 40 0] ad cntM M1 := by
        refine w_iload_n C dX7_turns_239 rfl ?_
        refine w_callS C dX7_turns_240 (c_X7_turnedRow hl (mrS S j) (if w = 1 then 4 - mcS S j else mcS S j) t (by omega) (by split <;> omega) ht) mX7_turnedRow sX7_turnedRow lk_X7_155 rfl rfl ⟨by decide, by decide, by decide, by decide⟩ (Nat.le_of_ble_eq_true rfl) (fun _ _ h => h.elim) ⟨by decide, by decide⟩ (fun r_ M_ q240 => ?_)
        obtain ⟨e240, rfl⟩ := q240
        subst e240
        refine w_iload C dX7_turns_243 rfl ?_
        refine w_isub C dX7_turns_245 ?_
        refine p_X7_162 C dX7_turns_246 (by first | assumption | exact Nat.zero_lt_one | exact Nat.zero_lt_two | exact Nat.one_lt_two) ?_
        refine w_vret C hr dX7_turns_249 (by
            refine ⟨hT.uI (Or.inl ⟨rfl, Or.inr rfl⟩), ⟨?_, fun i p hp => ?_, ?_⟩, rfl⟩
            · rw [uI_get, if_neg (by omega), hCM, cl_rwc, List.length_map]
            · rw [cl_rwc, List.getElem?_map] at hp
              obtain ⟨p0, hp0, rfl⟩ := Option.map_eq_some_iff.mp hp
              have h9 := hE i p0 hp0
              have hi := (List.getElem?_eq_some_iff.mp hp0).1
              rw [if_pos (by omega), if_pos (by omega)] at h9
              rw [uI_get, if_neg (by omega), uI_get, if_neg (by omega)]
              exact h9
            · rw [uI_get, if_pos ⟨rfl, rfl, rfl⟩, hmk]) (by decide) (by decide)
      refine w_iload C dX7_turns_172 rfl ?_
      refine w_aload_n C dX7_turns_174 rfl ?_
      refine g_X7_152 C dX7_turns_175 (by first | assumption | exact Nat.zero_lt_one | exact Nat.zero_lt_two | exact Nat.one_lt_two) ?_
      refine w_icmp_ge C dX7_turns_178 (by omega) (by omega) (fun h178 => ?_) (fun h178 => ?_)
      · refine w_aload_n C dX7_turns_211 rfl ?_
        refine w_aload_n C dX7_turns_212 rfl ?_
        refine g_X7_34 C dX7_turns_213 (by first | assumption | exact Nat.zero_lt_one | exact Nat.zero_lt_two | exact Nat.one_lt_two) ?_
        refine w_iload_n C dX7_turns_216 rfl ?_
        refine w_ialdN (j := j) C dX7_turns_217 (by first | assumption | exact Nat.zero_lt_one | exact Nat.zero_lt_two | exact Nat.one_lt_two) IA_50 (by omega) (by omega) ?_
        rw [e13]
        refine w_iload_n C dX7_turns_218 rfl ?_
        refine w_if_eq C dX7_turns_219 (by omega) (fun h219 => ?_) (fun h219 => ?_)
        · refine w_aload_n C dX7_turns_233 rfl ?_
          refine g_X7_37 C dX7_turns_234 (by first | assumption | exact Nat.zero_lt_one | exact Nat.zero_lt_two | exact Nat.one_lt_two) ?_
          refine w_iload_n C dX7_turns_237 rfl ?_
          refine w_ialdN (j := j) C dX7_turns_238 (by first | assumption | exact Nat.zero_lt_one | exact Nat.zero_lt_two | exact Nat.one_lt_two) IA_51 (by omega) (by omega) ?_
          rw [e14]
          refine Wm.lsub (lv' := [(0, aO 40 0), (2, aI t), (4, aI (topS (dB S j) t w : Nat))]) ⟨rfl, rfl, rfl, trivial⟩ (Wm.top (congrArg aI ?_) K239)
          first | (rw [if_pos (by omega)]; omega) | (rw [if_neg (by omega)])
        · refine w_iconst C dX7_turns_222 ?_
          refine w_aload_n C dX7_turns_223 rfl ?_
          refine g_X7_37 C dX7_turns_224 (by first | assumption | exact Nat.zero_lt_one | exact Nat.zero_lt_two | exact Nat.one_lt_two) ?_
          refine w_iload_n C dX7_turns_227 rfl ?_
          refine w_ialdN (j := j) C dX7_turns_228 (by first | assumption | exact Nat.zero_lt_one | exact Nat.zero_lt_two | exact Nat.one_lt_two) IA_51 (by omega) (by omega) ?_
          rw [e14]
          refine w_isub C dX7_turns_229 ?_
          refine w_goto C dX7_turns_230 ?_
          refine Wm.lsub (lv' := [(0, aO 40 0), (2, aI t), (4, aI (topS (dB S j) t w : Nat))]) ⟨rfl, rfl, rfl, trivial⟩ (Wm.top (congrArg aI ?_) K239)
          first | (rw [if_pos (by omega)]; omega) | (rw [if_neg (by omega)])
      · omega
    | succ b ih =>
      intro n M1 hn hT hCM hE
      obtain ⟨q0, hq0⟩ : ∃ q0, (rwc (dB S j) t w 25)[n]? = some q0 := ⟨_, List.getElem?_eq_getElem (by omega)⟩
      have h9 := hE n q0 hq0
      rw [if_neg (Nat.lt_irrefl n), if_neg (Nat.lt_irrefl n)] at h9
      have hge : topS (dB S j) t w ≤ q0.1 ∧ leftS (dB S j) t w ≤ q0.2 := by
        have hm := List.mem_of_getElem? hq0
        unfold rwc at hm
        obtain ⟨k, hk, rfl⟩ := List.mem_map.mp hm
        rw [List.mem_filter, List.mem_range] at hk
        exact ⟨lst5_min (rowB_iff.mpr ⟨k, hk.1, hk.2, rfl⟩), lst5_min (colB_iff.mpr ⟨k, hk.1, hk.2, rfl⟩)⟩
      refine w_iload C dX7_turns_172 rfl ?_
      refine w_aload_n C dX7_turns_174 rfl ?_
      refine g_X7_152 C dX7_turns_175 (by first | assumption | exact Nat.zero_lt_one | exact Nat.zero_lt_two | exact Nat.one_lt_two) ?_
      refine w_icmp_ge C dX7_turns_178 (by omega) (by omega) (fun h178 => ?_) (fun h178 => ?_)
      · omega
      · refine w_aload_n C dX7_turns_181 rfl ?_
        refine g_X7_79 C dX7_turns_182 (by first | assumption | exact Nat.zero_lt_one | exact Nat.zero_lt_two | exact Nat.one_lt_two) ?_
        refine w_iload C dX7_turns_185 rfl ?_
        refine w_dup2 C dX7_turns_187 rfl rfl ?_
        refine w_ialdN (j := n) C dX7_turns_188 (by first | assumption | exact Nat.zero_lt_one | exact Nat.zero_lt_two | exact Nat.one_lt_two) IA_63 (by omega) (by omega) ?_
        refine w_iload C dX7_turns_189 rfl ?_
        refine w_isub C dX7_turns_191 ?_
        refine w_iastN (j := n) C dX7_turns_192 (by first | assumption | exact Nat.zero_lt_one | exact Nat.zero_lt_two | exact Nat.one_lt_two) IA_63 (by omega) (by omega) ?_
        refine w_aload_n C dX7_turns_193 rfl ?_
        refine g_X7_82 C dX7_turns_194 (by first | assumption | exact Nat.zero_lt_one | exact Nat.zero_lt_two | exact Nat.one_lt_two) ?_
        refine w_iload C dX7_turns_197 rfl ?_
        refine w_dup2 C dX7_turns_199 rfl rfl ?_
        refine w_ialdN (j := n) C dX7_turns_200 (by first | assumption | exact Nat.zero_lt_one | exact Nat.zero_lt_two | exact Nat.one_lt_two) IA_64 (by omega) (by omega) ?_
        rw [uI_get, if_neg (by omega)]
        refine w_iload C dX7_turns_201 rfl ?_
        refine w_isub C dX7_turns_203 ?_
        refine w_iastN (j := n) C dX7_turns_204 (by first | assumption | exact Nat.zero_lt_one | exact Nat.zero_lt_two | exact Nat.one_lt_two) IA_64 (by omega) (by omega) ?_
        refine w_iinc C dX7_turns_205 rfl (by decide) ?_
        refine w_goto C dX7_turns_208 ?_
        refine Wm.lsub (lv' := [(0, aO 40 0), (1, aI j), (2, aI t), (3, aI w), (4, aI (topS (dB S j) t w : Nat)), (5, aI (leftS (dB S j) t w : Nat)), (6, aI ((n + 1 : Nat) : Int))]) ⟨rfl, rfl, rfl, rfl, rfl, rfl, rfl, trivial⟩ (ih (n + 1) _ (by omega) ((hT.uI (Or.inr (Or.inl rfl))).uI (Or.inr (Or.inr rfl))) (by rw [uI_get, if_neg (by omega), uI_get, if_neg (by omega)]; exact hCM) (fun i p hp => ?_))
        have h8 := hE i p hp
        by_cases hi : i = n
        · subst hi
          rw [hp] at hq0
          obtain rfl := Option.some.inj hq0
          rw [if_pos (Nat.lt_succ_self i), if_pos (Nat.lt_succ_self i), uI_ne (by omega), uI_eq, uI_eq]
          omega
        · rw [uI_ne (by omega), uI_ne (by omega), uI_ne (by omega), uI_ne (by omega), h8.1, h8.2]
          have e1 : (i < n + 1) ↔ i < n := by omega
          simp only [e1, and_self]
  have L1 : ∀ (b n : Nat) (M1 : Mem), n + b = 25 → TrM M M1 → M1.1 40 0 33 = (rwc (dB S j) t w n).length → (∀ i p, (rwc (dB S j) t w n)[i]? = some p → M1.1 63 0 i = (p.1 : Nat) ∧ M1.1 64 0 i = (p.2 : Nat)) → Wm p l e (rmd 2 0 0) s m args below meth c 8 D cA b0 0 0 (vx_MQ below (mQ D cA b0 ad cntM (fun r9 M' => TrM M M' ∧ CelM S j t w M' ∧ r9 = none)) (mX D cA b0 ad cntM noX) args s 0 0 b0) 14 [(0, aO 40 0), (1, aI j), (2, aI t), (3, aI w), (4, aI (mnF (tR t w) (dB S j) n : Nat)), (5, aI (mnF (tC t w) (dB S j) n : Nat)), (6, aI n)] [] ad cntM M1 := by
    intro b
    induction b with
    | zero =>
      intro n M1 hn hT hCM hE
      have en : n = 25 := by omega
      subst en
      refine w_iload C dX7_turns_14 rfl ?_
      refine w_bipush (v := 25) C dX7_turns_16 rfl ?_
      refine w_icmp_ge C dX7_turns_18 (by omega) (by omega) (fun h18 => ?_) (fun h18 => ?_)
      · refine w_iconst C dX7_turns_169 ?_
        refine w_istore C dX7_turns_170 (by decide) ?_
        refine Wm.lsub (lv' := [(0, aO 40 0), (1, aI j), (2, aI t), (3, aI w), (4, aI (topS (dB S j) t w : Nat)), (5, aI (leftS (dB S j) t w : Nat)), (6, aI ((0 : Nat) : Int))]) ⟨rfl, rfl, rfl, rfl, by rw [← top_mn]; rfl, by rw [← left_mn]; rfl, rfl, trivial⟩ (L2 _ 0 M1 (Nat.zero_add _) hT hCM (fun i p hp => by rw [if_neg (Nat.not_lt_zero i), if_neg (Nat.not_lt_zero i)]; exact hE i p hp))
      · omega
    | succ b ih =>
      intro n M1 hn hT hCM hE
      have hdr := (hT.2.1 43 (by decide) (by decide) (by decide) (25 * j + n)).trans (hR.2.2.2.1 j n hj (by omega))
      have hd1 := p9 n
      have hln := rwc_len (dB S j) t w n
      have hst := rwc_st (dB S j) t w n
      have m5 := mnF_5 (tR t w) (dB S j) n
      have n5 := mnF_5 (tC t w) (dB S j) n
      have r4 : tR t w n ≤ 4 := tR_le (by omega)
      have c4 : tC t w n ≤ 4 := tC_le (by omega)
      have eR : mnF (tR t w) (dB S j) (n + 1) = if dB S j n = true ∧ tR t w n < mnF (tR t w) (dB S j) n then tR t w n else mnF (tR t w) (dB S j) n := rfl
      have eC : mnF (tC t w) (dB S j) (n + 1) = if dB S j n = true ∧ tC t w n < mnF (tC t w) (dB S j) n then tC t w n else mnF (tC t w) (dB S j) n := rfl
      have K53 : drS S j n ≠ 0 → Wm p l e (rmd 2 0 0) s m args below meth c 8 D cA b0 0 0 (vx_MQ below (mQ D cA b0 ad cntM (fun r9 M' => TrM M M' ∧ CelM S j t w M' ∧ r9 = none)) (mX D cA b0 ad cntM noX) args s 0 0 b0) 53 [(0, aO 40 0), (1, aI j), (2, aI t), (3, aI w), (4, aI (mnF (tR t w) (dB S j) n : Nat)), (5, aI (mnF (tC t w) (dB S j) n : Nat)), (6, aI n)] [aI ((if w = 1 then 4 - n % 5 else n % 5 : Nat) : Int)] ad cntM M1 := by
        intro hdn
        have hdt : dB S j n = true := dr_iff.mpr hdn
        rw [hdt] at hst eR eC
        simp only [if_true, true_and] at hst eR eC
        have hc4 : (if w = 1 then 4 - n % 5 else n % 5) ≤ 4 := by split <;> omega
        refine w_istore C dX7_turns_53 (by decide) ?_
        refine w_aload_n C dX7_turns_55 rfl ?_
        refine g_X7_79 C dX7_turns_56 (by first | assumption | exact Nat.zero_lt_one | exact Nat.zero_lt_two | exact Nat.one_lt_two) ?_
        refine w_aload_n C dX7_turns_59 rfl ?_
        refine g_X7_152 C dX7_turns_60 (by first | assumption | exact Nat.zero_lt_one | exact Nat.zero_lt_two | exact Nat.one_lt_two) ?_
        refine w_iload C dX7_turns_63 rfl ?_
        refine w_iconst C dX7_turns_65 ?_
        refine w_idiv C dX7_turns_66 (by omega) (by omega) ?_
        refine w_iload C dX7_turns_67 rfl ?_
        refine w_iload_n C dX7_turns_69 rfl ?_
        refine w_callS C dX7_turns_70 (c_X7_turnedRow hl (n / 5) (if w = 1 then 4 - n % 5 else n % 5) t (by omega) hc4 ht) mX7_turnedRow sX7_turnedRow lk_X7_155 rfl rfl ⟨by decide, by decide, by decide, by decide⟩ (Nat.le_of_ble_eq_true rfl) (fun _ _ h => h.elim) ⟨by decide, by decide⟩ (fun r_ M_ q70 => ?_)
        obtain ⟨e70, rfl⟩ := q70
        subst e70
        rw [tq_R]
        refine w_iastN (j := (rwc (dB S j) t w n).length) C dX7_turns_73 (by first | assumption | exact Nat.zero_lt_one | exact Nat.zero_lt_two | exact Nat.one_lt_two) IA_63 (by omega) (by omega) ?_
        refine w_aload_n C dX7_turns_74 rfl ?_
        refine g_X7_82 C dX7_turns_75 (by first | assumption | exact Nat.zero_lt_one | exact Nat.zero_lt_two | exact Nat.one_lt_two) ?_
        refine w_aload_n C dX7_turns_78 rfl ?_
        refine g_X7_152 C dX7_turns_79 (by first | assumption | exact Nat.zero_lt_one | exact Nat.zero_lt_two | exact Nat.one_lt_two) ?_
        refine Wm.top (v' := aI ((rwc (dB S j) t w n).length : Nat)) (congrArg aI hCM) ?_
        refine w_iload C dX7_turns_82 rfl ?_
        refine w_iconst C dX7_turns_84 ?_
        refine w_idiv C dX7_turns_85 (by omega) (by omega) ?_
        refine w_iload C dX7_turns_86 rfl ?_
        refine w_iload_n C dX7_turns_88 rfl ?_
        refine w_callS C dX7_turns_89 (c_X7_turnedColumn hl (n / 5) (if w = 1 then 4 - n % 5 else n % 5) t (by omega) hc4 ht) mX7_turnedColumn sX7_turnedColumn lk_X7_159 rfl rfl ⟨by decide, by decide, by decide, by decide⟩ (Nat.le_of_ble_eq_true rfl) (fun _ _ h => h.elim) ⟨by decide, by decide⟩ (fun r_ M_ q89 => ?_)
        obtain ⟨e89, rfl⟩ := q89
        subst e89
        rw [tq_C]
        refine w_iastN (j := (rwc (dB S j) t w n).length) C dX7_turns_92 (by first | assumption | exact Nat.zero_lt_one | exact Nat.zero_lt_two | exact Nat.one_lt_two) IA_64 (by omega) (by omega) ?_
        refine w_aload_n C dX7_turns_93 rfl ?_
        refine g_X7_79 C dX7_turns_94 (by first | assumption | exact Nat.zero_lt_one | exact Nat.zero_lt_two | exact Nat.one_lt_two) ?_
        refine w_aload_n C dX7_turns_97 rfl ?_
        refine g_X7_152 C dX7_turns_98 (by first | assumption | exact Nat.zero_lt_one | exact Nat.zero_lt_two | exact Nat.one_lt_two) ?_
        refine Wm.top (v' := aI ((rwc (dB S j) t w n).length : Nat)) (congrArg aI hCM) ?_
        refine w_ialdN (j := (rwc (dB S j) t w n).length) C dX7_turns_101 (by first | assumption | exact Nat.zero_lt_one | exact Nat.zero_lt_two | exact Nat.one_lt_two) IA_63 (by omega) (by omega) ?_
        rw [uI_ne (by omega), uI_eq]
        refine w_iload C dX7_turns_102 rfl ?_
        refine w_icmp_ge C dX7_turns_104 (by omega) (by omega) (fun h104 => ?_) (fun h104 => ?_)
        · refine w_iload C dX7_turns_119 rfl ?_
          refine w_istore C dX7_turns_121 (by decide) ?_
          refine w_aload_n C dX7_turns_123 rfl ?_
          refine g_X7_82 C dX7_turns_124 (by first | assumption | exact Nat.zero_lt_one | exact Nat.zero_lt_two | exact Nat.one_lt_two) ?_
          refine w_aload_n C dX7_turns_127 rfl ?_
          refine g_X7_152 C dX7_turns_128 (by first | assumption | exact Nat.zero_lt_one | exact Nat.zero_lt_two | exact Nat.one_lt_two) ?_
          refine Wm.top (v' := aI ((rwc (dB S j) t w n).length : Nat)) (congrArg aI hCM) ?_
          refine w_ialdN (j := (rwc (dB S j) t w n).length) C dX7_turns_131 (by first | assumption | exact Nat.zero_lt_one | exact Nat.zero_lt_two | exact Nat.one_lt_two) IA_64 (by omega) (by omega) ?_
          rw [uI_eq]
          refine w_iload C dX7_turns_132 rfl ?_
          refine w_icmp_ge C dX7_turns_134 (by omega) (by omega) (fun h134 => ?_) (fun h134 => ?_)
          · refine w_iload C dX7_turns_149 rfl ?_
            refine w_istore C dX7_turns_151 (by decide) ?_
            refine w_aload_n C dX7_turns_153 rfl ?_
            refine w_dup C dX7_turns_154 rfl ?_
            refine g_X7_152 C dX7_turns_155 (by first | assumption | exact Nat.zero_lt_one | exact Nat.zero_lt_two | exact Nat.one_lt_two) ?_
            refine w_iconst C dX7_turns_158 ?_
            refine w_iadd C dX7_turns_159 ?_
            refine p_X7_152 C dX7_turns_160 (by first | assumption | exact Nat.zero_lt_one | exact Nat.zero_lt_two | exact Nat.one_lt_two) ?_
            refine w_iinc C dX7_turns_163 rfl (by decide) ?_
            refine w_goto C dX7_turns_166 ?_
            refine Wm.lsub (lv' := [(0, aO 40 0), (1, aI j), (2, aI t), (3, aI w), (4, aI (mnF (tR t w) (dB S j) (n + 1) : Nat)), (5, aI (mnF (tC t w) (dB S j) (n + 1) : Nat)), (6, aI ((n + 1 : Nat) : Int))]) ⟨rfl, rfl, rfl, rfl, congrArg (fun z : Int => some (aI z)) (by rw [eR]; first | (rw [if_pos (by omega)]) | (rw [if_neg (by omega)])), congrArg (fun z : Int => some (aI z)) (by rw [eC]; first | (rw [if_pos (by omega)]) | (rw [if_neg (by omega)])), rfl, trivial⟩ (ih (n + 1) _ (by omega) (((hT.uI (Or.inr (Or.inl rfl))).uI (Or.inr (Or.inr rfl))).uI (Or.inl ⟨rfl, Or.inl rfl⟩)) ?_ (fun i p hp => ?_))
            · rw [uI_get, if_pos ⟨rfl, rfl, rfl⟩, uI_get, if_neg (by omega), uI_get, if_neg (by omega), hCM, hst, List.length_append]; rfl
            · rw [hst] at hp
              by_cases hi : i = (rwc (dB S j) t w n).length
              · subst hi
                rw [List.getElem?_append_right (Nat.le_refl _), Nat.sub_self] at hp
                obtain rfl := Option.some.inj hp
                exact ⟨by rw [uI_ne (by omega), uI_ne (by omega), uI_eq], by rw [uI_ne (by omega), uI_eq]⟩
              · have hlt : i < (rwc (dB S j) t w n).length := by have := (List.getElem?_eq_some_iff.mp hp).1; rw [List.length_append] at this; have e1 : ([(tR t w n, tC t w n)] : List (Nat × Nat)).length = 1 := rfl; omega
                rw [List.getElem?_append_left hlt] at hp
                exact ⟨by rw [uI_ne (by omega), uI_ne (by omega), uI_ne (by omega)]; exact (hE i p hp).1, by rw [uI_ne (by omega), uI_ne (by omega), uI_ne (by omega)]; exact (hE i p hp).2⟩
          · refine w_aload_n C dX7_turns_137 rfl ?_
            refine g_X7_82 C dX7_turns_138 (by first | assumption | exact Nat.zero_lt_one | exact Nat.zero_lt_two | exact Nat.one_lt_two) ?_
            refine w_aload_n C dX7_turns_141 rfl ?_
            refine g_X7_152 C dX7_turns_142 (by first | assumption | exact Nat.zero_lt_one | exact Nat.zero_lt_two | exact Nat.one_lt_two) ?_
            refine Wm.top (v' := aI ((rwc (dB S j) t w n).length : Nat)) (congrArg aI hCM) ?_
            refine w_ialdN (j := (rwc (dB S j) t w n).length) C dX7_turns_145 (by first | assumption | exact Nat.zero_lt_one | exact Nat.zero_lt_two | exact Nat.one_lt_two) IA_64 (by omega) (by omega) ?_
            rw [uI_eq]
            refine w_goto C dX7_turns_146 ?_
            refine w_istore C dX7_turns_151 (by decide) ?_
            refine w_aload_n C dX7_turns_153 rfl ?_
            refine w_dup C dX7_turns_154 rfl ?_
            refine g_X7_152 C dX7_turns_155 (by first | assumption | exact Nat.zero_lt_one | exact Nat.zero_lt_two | exact Nat.one_lt_two) ?_
            refine w_iconst C dX7_turns_158 ?_
            refine w_iadd C dX7_turns_159 ?_
            refine p_X7_152 C dX7_turns_160 (by first | assumption | exact Nat.zero_lt_one | exact Nat.zero_lt_two | exact Nat.one_lt_two) ?_
            refine w_iinc C dX7_turns_163 rfl (by decide) ?_
            refine w_goto C dX7_turns_166 ?_
            refine Wm.lsub (lv' := [(0, aO 40 0), (1, aI j), (2, aI t), (3, aI w), (4, aI (mnF (tR t w) (dB S j) (n + 1) : Nat)), (5, aI (mnF (tC t w) (dB S j) (n + 1) : Nat)), (6, aI ((n + 1 : Nat) : Int))]) ⟨rfl, rfl, rfl, rfl, congrArg (fun z : Int => some (aI z)) (by rw [eR]; first | (rw [if_pos (by omega)]) | (rw [if_neg (by omega)])), congrArg (fun z : Int => some (aI z)) (by rw [eC]; first | (rw [if_pos (by omega)]) | (rw [if_neg (by omega)])), rfl, trivial⟩ (ih (n + 1) _ (by omega) (((hT.uI (Or.inr (Or.inl rfl))).uI (Or.inr (Or.inr rfl))).uI (Or.inl ⟨rfl, Or.inl rfl⟩)) ?_ (fun i p hp => ?_))
            · rw [uI_get, if_pos ⟨rfl, rfl, rfl⟩, uI_get, if_neg (by omega), uI_get, if_neg (by omega), hCM, hst, List.length_append]; rfl
            · rw [hst] at hp
              by_cases hi : i = (rwc (dB S j) t w n).length
              · subst hi
                rw [List.getElem?_append_right (Nat.le_refl _), Nat.sub_self] at hp
                obtain rfl := Option.some.inj hp
                exact ⟨by rw [uI_ne (by omega), uI_ne (by omega), uI_eq], by rw [uI_ne (by omega), uI_eq]⟩
              · have hlt : i < (rwc (dB S j) t w n).length := by have := (List.getElem?_eq_some_iff.mp hp).1; rw [List.length_append] at this; have e1 : ([(tR t w n, tC t w n)] : List (Nat × Nat)).length = 1 := rfl; omega
                rw [List.getElem?_append_left hlt] at hp
                exact ⟨by rw [uI_ne (by omega), uI_ne (by omega), uI_ne (by omega)]; exact (hE i p hp).1, by rw [uI_ne (by omega), uI_ne (by omega), uI_ne (by omega)]; exact (hE i p hp).2⟩
        · refine w_aload_n C dX7_turns_107 rfl ?_
          refine g_X7_79 C dX7_turns_108 (by first | assumption | exact Nat.zero_lt_one | exact Nat.zero_lt_two | exact Nat.one_lt_two) ?_
          refine w_aload_n C dX7_turns_111 rfl ?_
          refine g_X7_152 C dX7_turns_112 (by first | assumption | exact Nat.zero_lt_one | exact Nat.zero_lt_two | exact Nat.one_lt_two) ?_
          refine Wm.top (v' := aI ((rwc (dB S j) t w n).length : Nat)) (congrArg aI hCM) ?_
          refine w_ialdN (j := (rwc (dB S j) t w n).length) C dX7_turns_115 (by first | assumption | exact Nat.zero_lt_one | exact Nat.zero_lt_two | exact Nat.one_lt_two) IA_63 (by omega) (by omega) ?_
          rw [uI_ne (by omega), uI_eq]
          refine w_goto C dX7_turns_116 ?_
          refine w_istore C dX7_turns_121 (by decide) ?_
          refine w_aload_n C dX7_turns_123 rfl ?_
          refine g_X7_82 C dX7_turns_124 (by first | assumption | exact Nat.zero_lt_one | exact Nat.zero_lt_two | exact Nat.one_lt_two) ?_
          refine w_aload_n C dX7_turns_127 rfl ?_
          refine g_X7_152 C dX7_turns_128 (by first | assumption | exact Nat.zero_lt_one | exact Nat.zero_lt_two | exact Nat.one_lt_two) ?_
          refine Wm.top (v' := aI ((rwc (dB S j) t w n).length : Nat)) (congrArg aI hCM) ?_
          refine w_ialdN (j := (rwc (dB S j) t w n).length) C dX7_turns_131 (by first | assumption | exact Nat.zero_lt_one | exact Nat.zero_lt_two | exact Nat.one_lt_two) IA_64 (by omega) (by omega) ?_
          rw [uI_eq]
          refine w_iload C dX7_turns_132 rfl ?_
          refine w_icmp_ge C dX7_turns_134 (by omega) (by omega) (fun h134 => ?_) (fun h134 => ?_)
          · refine w_iload C dX7_turns_149 rfl ?_
            refine w_istore C dX7_turns_151 (by decide) ?_
            refine w_aload_n C dX7_turns_153 rfl ?_
            refine w_dup C dX7_turns_154 rfl ?_
            refine g_X7_152 C dX7_turns_155 (by first | assumption | exact Nat.zero_lt_one | exact Nat.zero_lt_two | exact Nat.one_lt_two) ?_
            refine w_iconst C dX7_turns_158 ?_
            refine w_iadd C dX7_turns_159 ?_
            refine p_X7_152 C dX7_turns_160 (by first | assumption | exact Nat.zero_lt_one | exact Nat.zero_lt_two | exact Nat.one_lt_two) ?_
            refine w_iinc C dX7_turns_163 rfl (by decide) ?_
            refine w_goto C dX7_turns_166 ?_
            refine Wm.lsub (lv' := [(0, aO 40 0), (1, aI j), (2, aI t), (3, aI w), (4, aI (mnF (tR t w) (dB S j) (n + 1) : Nat)), (5, aI (mnF (tC t w) (dB S j) (n + 1) : Nat)), (6, aI ((n + 1 : Nat) : Int))]) ⟨rfl, rfl, rfl, rfl, congrArg (fun z : Int => some (aI z)) (by rw [eR]; first | (rw [if_pos (by omega)]) | (rw [if_neg (by omega)])), congrArg (fun z : Int => some (aI z)) (by rw [eC]; first | (rw [if_pos (by omega)]) | (rw [if_neg (by omega)])), rfl, trivial⟩ (ih (n + 1) _ (by omega) (((hT.uI (Or.inr (Or.inl rfl))).uI (Or.inr (Or.inr rfl))).uI (Or.inl ⟨rfl, Or.inl rfl⟩)) ?_ (fun i p hp => ?_))
            · rw [uI_get, if_pos ⟨rfl, rfl, rfl⟩, uI_get, if_neg (by omega), uI_get, if_neg (by omega), hCM, hst, List.length_append]; rfl
            · rw [hst] at hp
              by_cases hi : i = (rwc (dB S j) t w n).length
              · subst hi
                rw [List.getElem?_append_right (Nat.le_refl _), Nat.sub_self] at hp
                obtain rfl := Option.some.inj hp
                exact ⟨by rw [uI_ne (by omega), uI_ne (by omega), uI_eq], by rw [uI_ne (by omega), uI_eq]⟩
              · have hlt : i < (rwc (dB S j) t w n).length := by have := (List.getElem?_eq_some_iff.mp hp).1; rw [List.length_append] at this; have e1 : ([(tR t w n, tC t w n)] : List (Nat × Nat)).length = 1 := rfl; omega
                rw [List.getElem?_append_left hlt] at hp
                exact ⟨by rw [uI_ne (by omega), uI_ne (by omega), uI_ne (by omega)]; exact (hE i p hp).1, by rw [uI_ne (by omega), uI_ne (by omega), uI_ne (by omega)]; exact (hE i p hp).2⟩
          · refine w_aload_n C dX7_turns_137 rfl ?_
            refine g_X7_82 C dX7_turns_138 (by first | assumption | exact Nat.zero_lt_one | exact Nat.zero_lt_two | exact Nat.one_lt_two) ?_
            refine w_aload_n C dX7_turns_141 rfl ?_
            refine g_X7_152 C dX7_turns_142 (by first | assumption | exact Nat.zero_lt_one | exact Nat.zero_lt_two | exact Nat.one_lt_two) ?_
            refine Wm.top (v' := aI ((rwc (dB S j) t w n).length : Nat)) (congrArg aI hCM) ?_
            refine w_ialdN (j := (rwc (dB S j) t w n).length) C dX7_turns_145 (by first | assumption | exact Nat.zero_lt_one | exact Nat.zero_lt_two | exact Nat.one_lt_two) IA_64 (by omega) (by omega) ?_
            rw [uI_eq]
            refine w_goto C dX7_turns_146 ?_
            refine w_istore C dX7_turns_151 (by decide) ?_
            refine w_aload_n C dX7_turns_153 rfl ?_
            refine w_dup C dX7_turns_154 rfl ?_
            refine g_X7_152 C dX7_turns_155 (by first | assumption | exact Nat.zero_lt_one | exact Nat.zero_lt_two | exact Nat.one_lt_two) ?_
            refine w_iconst C dX7_turns_158 ?_
            refine w_iadd C dX7_turns_159 ?_
            refine p_X7_152 C dX7_turns_160 (by first | assumption | exact Nat.zero_lt_one | exact Nat.zero_lt_two | exact Nat.one_lt_two) ?_
            refine w_iinc C dX7_turns_163 rfl (by decide) ?_
            refine w_goto C dX7_turns_166 ?_
            refine Wm.lsub (lv' := [(0, aO 40 0), (1, aI j), (2, aI t), (3, aI w), (4, aI (mnF (tR t w) (dB S j) (n + 1) : Nat)), (5, aI (mnF (tC t w) (dB S j) (n + 1) : Nat)), (6, aI ((n + 1 : Nat) : Int))]) ⟨rfl, rfl, rfl, rfl, congrArg (fun z : Int => some (aI z)) (by rw [eR]; first | (rw [if_pos (by omega)]) | (rw [if_neg (by omega)])), congrArg (fun z : Int => some (aI z)) (by rw [eC]; first | (rw [if_pos (by omega)]) | (rw [if_neg (by omega)])), rfl, trivial⟩ (ih (n + 1) _ (by omega) (((hT.uI (Or.inr (Or.inl rfl))).uI (Or.inr (Or.inr rfl))).uI (Or.inl ⟨rfl, Or.inl rfl⟩)) ?_ (fun i p hp => ?_))
            · rw [uI_get, if_pos ⟨rfl, rfl, rfl⟩, uI_get, if_neg (by omega), uI_get, if_neg (by omega), hCM, hst, List.length_append]; rfl
            · rw [hst] at hp
              by_cases hi : i = (rwc (dB S j) t w n).length
              · subst hi
                rw [List.getElem?_append_right (Nat.le_refl _), Nat.sub_self] at hp
                obtain rfl := Option.some.inj hp
                exact ⟨by rw [uI_ne (by omega), uI_ne (by omega), uI_eq], by rw [uI_ne (by omega), uI_eq]⟩
              · have hlt : i < (rwc (dB S j) t w n).length := by have := (List.getElem?_eq_some_iff.mp hp).1; rw [List.length_append] at this; have e1 : ([(tR t w n, tC t w n)] : List (Nat × Nat)).length = 1 := rfl; omega
                rw [List.getElem?_append_left hlt] at hp
                exact ⟨by rw [uI_ne (by omega), uI_ne (by omega), uI_ne (by omega)]; exact (hE i p hp).1, by rw [uI_ne (by omega), uI_ne (by omega), uI_ne (by omega)]; exact (hE i p hp).2⟩
      refine w_iload C dX7_turns_14 rfl ?_
      refine w_bipush (v := 25) C dX7_turns_16 rfl ?_
      refine w_icmp_ge C dX7_turns_18 (by omega) (by omega) (fun h18 => ?_) (fun h18 => ?_)
      · omega
      · refine w_aload_n C dX7_turns_21 rfl ?_
        refine g_X7_24 C dX7_turns_22 (by first | assumption | exact Nat.zero_lt_one | exact Nat.zero_lt_two | exact Nat.one_lt_two) ?_
        refine w_bipush (v := 25) C dX7_turns_25 rfl ?_
        refine w_iload_n C dX7_turns_27 rfl ?_
        refine w_imul C dX7_turns_28 ?_
        refine w_iload C dX7_turns_29 rfl ?_
        refine w_iadd C dX7_turns_31 ?_
        refine w_zaldN (j := 25 * j + n) C dX7_turns_32 (by first | assumption | exact Nat.zero_lt_one | exact Nat.zero_lt_two | exact Nat.one_lt_two) ZA_43 (by omega) (by omega) ?_
        rw [hdr]
        refine w_if_eq C dX7_turns_33 (by omega) (fun h33 => ?_) (fun h33 => ?_)
        · have hdf : dB S j n = false := by cases h : dB S j n with | false => rfl | true => exact absurd (dr_iff.mp h) (by omega)
          rw [hdf] at hst eR eC
          simp only [Bool.false_eq_true, if_false, false_and] at hst eR eC
          refine w_iinc C dX7_turns_163 rfl (by decide) ?_
          refine w_goto C dX7_turns_166 ?_
          refine Wm.lsub (lv' := [(0, aO 40 0), (1, aI j), (2, aI t), (3, aI w), (4, aI (mnF (tR t w) (dB S j) (n + 1) : Nat)), (5, aI (mnF (tC t w) (dB S j) (n + 1) : Nat)), (6, aI ((n + 1 : Nat) : Int))]) ⟨rfl, rfl, rfl, rfl, by rw [eR]; rfl, by rw [eC]; rfl, rfl, trivial⟩ (ih (n + 1) M1 (by omega) hT (by rw [hst]; exact hCM) (fun i p hp => by rw [hst] at hp; exact hE i p hp))
        · refine w_iload_n C dX7_turns_36 rfl ?_
          refine w_if_eq C dX7_turns_37 (by omega) (fun h37 => ?_) (fun h37 => ?_)
          · refine w_iload C dX7_turns_49 rfl ?_
            refine w_iconst C dX7_turns_51 ?_
            refine w_irem C dX7_turns_52 (by omega) (by omega) ?_
            refine Wm.lsub (lv' := [(0, aO 40 0), (1, aI j), (2, aI t), (3, aI w), (4, aI (mnF (tR t w) (dB S j) n : Nat)), (5, aI (mnF (tC t w) (dB S j) n : Nat)), (6, aI n)]) ⟨rfl, rfl, rfl, rfl, rfl, rfl, rfl, trivial⟩ (Wm.top (congrArg aI ?_) (K53 (by omega)))
            first | (rw [if_pos (by omega)]; omega) | (rw [if_neg (by omega)]; omega)
          · refine w_iconst C dX7_turns_40 ?_
            refine w_iload C dX7_turns_41 rfl ?_
            refine w_iconst C dX7_turns_43 ?_
            refine w_irem C dX7_turns_44 (by omega) (by omega) ?_
            refine w_isub C dX7_turns_45 ?_
            refine w_goto C dX7_turns_46 ?_
            refine Wm.lsub (lv' := [(0, aO 40 0), (1, aI j), (2, aI t), (3, aI w), (4, aI (mnF (tR t w) (dB S j) n : Nat)), (5, aI (mnF (tC t w) (dB S j) n : Nat)), (6, aI n)]) ⟨rfl, rfl, rfl, rfl, rfl, rfl, rfl, trivial⟩ (Wm.top (congrArg aI ?_) (K53 (by omega)))
            first | (rw [if_pos (by omega)]; omega) | (rw [if_neg (by omega)]; omega)
  refine w_iconst C dX7_turns_0 ?_
  refine w_istore C dX7_turns_1 (by decide) ?_
  refine w_iconst C dX7_turns_3 ?_
  refine w_istore C dX7_turns_4 (by decide) ?_
  refine w_aload_n C dX7_turns_6 rfl ?_
  refine w_iconst C dX7_turns_7 ?_
  refine p_X7_152 C dX7_turns_8 (by first | assumption | exact Nat.zero_lt_one | exact Nat.zero_lt_two | exact Nat.one_lt_two) ?_
  refine w_iconst C dX7_turns_11 ?_
  refine w_istore C dX7_turns_12 (by decide) ?_
  exact Wm.lsub (lv' := [(0, aO 40 0), (1, aI j), (2, aI t), (3, aI w), (4, aI (mnF (tR t w) (dB S j) 0 : Nat)), (5, aI (mnF (tC t w) (dB S j) 0 : Nat)), (6, aI ((0 : Nat) : Int))]) ⟨rfl, rfl, rfl, rfl, rfl, rfl, rfl, trivial⟩ (L1 25 0 _ (by omega) (TrM.rf.uI (Or.inl ⟨rfl, Or.inl rfl⟩)) (by rw [uI_get, if_pos ⟨rfl, rfl, rfl⟩]; rfl) (fun i p hp => by cases hp))
end Mo
