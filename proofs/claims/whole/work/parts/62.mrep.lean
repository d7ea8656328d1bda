-- MODEL
/-! the model's memory, said of the same abstract state -/
def RepPm (p : Pc) (i : Nat) (M : Mem) : Prop := M.1 53 0 i = pNum p ∧ M.1 54 0 i = pShp p ∧ M.1 55 0 i = pRow p ∧ M.1 56 0 i = pCol p ∧ M.1 57 0 i = pTrn p ∧ M.1 45 0 i = pMir p
def ogS (S : Sg) (P : List Pc) (g : Nat) : Nat := if 2 ≤ srS S then inGr S P (g + 1) else 0
def RepM0 (S : Sg) (P : List Pc) (nx : Nat) (M : Mem) : Prop := M.1 40 0 1 = wdS S ∧ M.1 40 0 2 = npS S ∧ M.1 40 0 3 = fdS S ∧ M.1 40 0 4 = srS S ∧ M.1 40 0 5 = nfS S ∧ M.1 40 0 7 = nsS S ∧ M.1 40 0 17 = P.length ∧ M.1 40 0 18 = nx ∧ M.1 40 0 28 = ntS S ∧ M.1 40 0 31 = rlS S ∧ M.2.2.1 40 0 32 = (cutS S : Nat)
def RepMS (S : Sg) (j : Nat) (M : Mem) : Prop := M.1 47 0 j = ruS S j ∧ M.1 42 0 j = paS S j ∧ M.1 48 0 j = szS S j ∧ M.1 49 0 j = (gpS S j : Int) - 1 ∧ M.1 50 0 j = mrS S j ∧ M.1 51 0 j = mcS S j ∧ M.1 44 0 j = b2 (0 < eS S j) ∧ M.1 52 0 (2 * j) = stS S j 0 ∧ M.1 52 0 (2 * j + 1) = stS S j 1
def RepMM (S : Sg) (P : List Pc) (M : Mem) : Prop := (∀ i p, P[i]? = some p → RepPm p i M) ∧ (∀ k, k < 720 → M.1 58 0 k = clo S P k) ∧
  (∀ g, g < 4 → M.1 60 0 g = ogS S P g) ∧ ∀ p, p ∈ P → gpS S (pShp p) ≠ 0 → 2 ≤ srS S → M.1 59 0 (gpS S (pShp p) - 1) = remP S p
def RepMo (S : Sg) (P : List Pc) (nx : Nat) (M : Mem) : Prop :=
  RepM0 S P nx M ∧ (∀ k, k < 720 → M.1 41 0 k = flS S k) ∧ (∀ j, j < 8 → RepMS S j M) ∧ (∀ j k, j < 8 → k < 25 → M.1 43 0 (25 * j + k) = drS S j k) ∧
  RepMM S P M ∧ (∀ y j, y < 4 → j < 8 → M.1 61 0 (8 * y + j) = ctS S y j) ∧ ∀ y, y < 4 → M.1 62 0 y = mdS S y
/-- only what the model holds for a while has changed -/
def FrM (M M' : Mem) : Prop := (∀ s, 1 ≤ s → s < 33 → M'.1 40 0 s = M.1 40 0 s) ∧ M'.2.2.1 40 0 32 = M.2.2.1 40 0 32 ∧ ∀ k, 41 ≤ k → k ≤ 62 → ∀ j, M'.1 k 0 j = M.1 k 0 j
theorem FrM.rf {M : Mem} : FrM M M := ⟨fun _ _ _ => rfl, rfl, fun _ _ _ _ => rfl⟩
theorem FrM.tr {M M' M'' : Mem} (h1 : FrM M M') (h2 : FrM M' M'') : FrM M M'' := ⟨fun s a b => (h2.1 s a b).trans (h1.1 s a b), h2.2.1.trans h1.2.1, fun k a b j => (h2.2.2 k a b j).trans (h1.2.2 k a b j)⟩
theorem FrM.uI {M M' : Mem} {k s : Nat} {v : Int} (h : FrM M M') (hk : (k = 40 ∧ (s = 0 ∨ 33 ≤ s)) ∨ 63 ≤ k) : FrM M (uI M' k 0 s v) := by
  refine ⟨fun s' a b => ?_, h.2.1, fun k' a b j => ?_⟩
  · rw [uI_get, if_neg (by omega)]
    exact h.1 s' a b
  · rw [uI_get, if_neg (by omega)]
    exact h.2.2 k' a b j
theorem RepMS.fr {S : Sg} {j : Nat} {M M' : Mem} (hF : FrM M M') (h : RepMS S j M) : RepMS S j M' := by
  obtain ⟨a1, a2, a3, a4, a5, a6, a7, a8, a9⟩ := h
  have f := hF.2.2
  exact ⟨by rw [f 47 (by decide) (by decide)]; exact a1, by rw [f 42 (by decide) (by decide)]; exact a2, by rw [f 48 (by decide) (by decide)]; exact a3, by rw [f 49 (by decide) (by decide)]; exact a4, by rw [f 50 (by decide) (by decide)]; exact a5, by rw [f 51 (by decide) (by decide)]; exact a6, by rw [f 44 (by decide) (by decide)]; exact a7, by rw [f 52 (by decide) (by decide)]; exact a8, by rw [f 52 (by decide) (by decide)]; exact a9⟩
theorem RepM0.fr {S : Sg} {P : List Pc} {nx : Nat} {M M' : Mem} (hF : FrM M M') (h : RepM0 S P nx M) : RepM0 S P nx M' := by
  obtain ⟨a1, a2, a3, a4, a5, a6, a7, a8, a9, a10, a11⟩ := h
  have f := hF.1
  exact ⟨by rw [f 1 (by decide) (by decide)]; exact a1, by rw [f 2 (by decide) (by decide)]; exact a2, by rw [f 3 (by decide) (by decide)]; exact a3, by rw [f 4 (by decide) (by decide)]; exact a4, by rw [f 5 (by decide) (by decide)]; exact a5, by rw [f 7 (by decide) (by decide)]; exact a6, by rw [f 17 (by decide) (by decide)]; exact a7, by rw [f 18 (by decide) (by decide)]; exact a8, by rw [f 28 (by decide) (by decide)]; exact a9, by rw [f 31 (by decide) (by decide)]; exact a10, by rw [hF.2.1]; exact a11⟩
theorem RepMM.fr {S : Sg} {P : List Pc} {M M' : Mem} (f : ∀ k, k = 45 ∨ 53 ≤ k ∧ k ≤ 60 → ∀ j, M'.1 k 0 j = M.1 k 0 j) (h : RepMM S P M) : RepMM S P M' := by
  obtain ⟨a5, a6, a7, a8⟩ := h
  refine ⟨fun i p hp => ?_, fun k hk => by rw [f 58 (by decide)]; exact a6 k hk, fun g hg => by rw [f 60 (by decide)]; exact a7 g hg, fun p h1 h2 h3 => by rw [f 59 (by decide)]; exact a8 p h1 h2 h3⟩
  obtain ⟨a1, a2, a3, a4, a5, a6⟩ := a5 i p hp
  exact ⟨by rw [f 53 (by decide)]; exact a1, by rw [f 54 (by decide)]; exact a2, by rw [f 55 (by decide)]; exact a3, by rw [f 56 (by decide)]; exact a4, by rw [f 57 (by decide)]; exact a5, by rw [f 45 (by decide)]; exact a6⟩
theorem inGr_cg {S S' : Sg} {P : List Pc} (h : ∀ p ∈ P, ShpCg S S' (pShp p)) (g : Nat) : inGr S' P g = inGr S P g := by
  unfold inGr
  refine List.countP_congr fun p hp => ?_
  rw [(h p hp).2.1]
theorem RepMM.cg {S S' : Sg} {P : List Pc} {M : Mem} (h : ∀ p ∈ P, ShpCg S S' (pShp p)) (hs : P ≠ [] → srS S' = srS S) (hM : RepMM S P M) : RepMM S' P M := by
  obtain ⟨a5, a6, a7, a8⟩ := hM
  refine ⟨a5, fun k hk => by rw [clo_cg (fun p hp => (h p hp).1), a6 k hk], fun g hg => ?_, fun p hp hg h2 => ?_⟩
  · rw [a7 g hg]
    unfold ogS
    rw [inGr_cg h]
    by_cases hP : P = []
    · subst hP
      have : inGr S [] (g + 1) = 0 := rfl
      rw [this]
      split <;> split <;> rfl
    · rw [hs hP]
  · have hs' := hs (List.ne_nil_of_mem hp)
    rw [(h p hp).2.1] at hg ⊢
    rw [remP_cg (h p hp) hs']
    rw [hs'] at h2
    exact a8 p hp hg h2
theorem RepMo.fr {S : Sg} {P : List Pc} {nx : Nat} {M M' : Mem} (hF : FrM M M') (h : RepMo S P nx M) : RepMo S P nx M' := by
  obtain ⟨a1, a2, a3, a4, a5, a9, a10⟩ := h
  have f := hF.2.2
  exact ⟨a1.fr hF, fun k hk => by rw [f 41 (by decide) (by decide)]; exact a2 k hk, fun j hj => (a3 j hj).fr hF, fun j k hj hk => by rw [f 43 (by decide) (by decide)]; exact a4 j k hj hk, a5.fr (fun k hk j => f k (by omega) (by omega) j), fun y j hy hj => by rw [f 61 (by decide) (by decide)]; exact a9 y j hy hj, fun y hy => by rw [f 62 (by decide) (by decide)]; exact a10 y hy⟩
theorem RepMo.thr {S : Sg} {P : List Pc} {nx : Nat} {M : Mem} {v : Int} (h : RepMo S P nx M) : RepMo S P nx (uI M 40 0 0 v) := h.fr (FrM.rf.uI (Or.inl ⟨rfl, Or.inl rfl⟩))
/-- the end of a call of the model: what it threw, what it answered, what it holds then -/
def okM (o : Res) (r : Option AV) (M' : Mem) : Prop := M'.1 40 0 0 = (o.1 : Nat) ∧ RepMo o.2.2.1 o.2.2.2.1 o.2.2.2.2 M' ∧ ∃ v : Int, r = some (aI v) ∧ (o.1 = 0 → v = o.2.1)
theorem okM_of {o : Res} {v : Int} {S' : Sg} {P' : List Pc} {nx' : Nat} {r : Option AV} {M' : Mem} (E : o = (0, v, S', P', nx')) (hr : r = some (aI v)) (ht : M'.1 40 0 0 = 0) (h : RepMo S' P' nx' M') : okM o r M' := by
  rw [E]
  exact ⟨ht, h, v, hr, fun _ => rfl⟩
theorem okM_no {o : Res} {i : Nat} {v w : Int} {S' : Sg} {P' : List Pc} {nx' : Nat} {r : Option AV} {M' : Mem} (E : o = (i, w, S', P', nx')) (hi : 0 < i) (hr : r = some (aI v)) (ht : M'.1 40 0 0 = (i : Nat)) (h : RepMo S' P' nx' M') : okM o r M' := by
  rw [E]
  exact ⟨ht, h, v, hr, fun q => absurd q (by show ¬ i = 0; omega)⟩
/-- what the numbers are of the places that are read -/
theorem RepMo.rg {S : Sg} {P : List Pc} {nx : Nat} {M : Mem} (hG : GInv S) (h : RepMo S P nx M) : (2 ≤ M.1 40 0 1 ∧ M.1 40 0 1 ≤ 12) ∧ (0 ≤ M.1 40 0 2 ∧ M.1 40 0 2 ≤ 1) ∧ (0 ≤ M.1 40 0 3 ∧ M.1 40 0 3 ≤ 1) ∧ (0 ≤ M.1 40 0 4 ∧ M.1 40 0 4 ≤ 6) ∧ (0 ≤ M.1 40 0 5 ∧ M.1 40 0 5 ≤ 12) ∧ (0 ≤ M.1 40 0 7 ∧ M.1 40 0 7 ≤ 8) := by
  obtain ⟨⟨a1, a2, a3, a4, a5, a6, -⟩, -⟩ := h
  obtain ⟨g1, g2, g3, g4, g5, g6, -⟩ := hG
  omega
/-- 'fails' changes what was thrown alone -/
def FlM (M M' : Mem) : Prop := (∀ k s, ¬ (k = 40 ∧ s = 0) → M'.1 k 0 s = M.1 k 0 s) ∧ M'.2 = M.2
theorem FlM.fr {M M' : Mem} (h : FlM M M') : FrM M M' := ⟨fun s a b => h.1 40 s (by omega), by rw [h.2], fun k a b j => h.1 k j (by omega)⟩
section Mo
variable {l : Launch} {b0 : Nat → Prop} {ad : Ads} {M : Mem}
theorem c_X7_failsY (hl : l.stackTraces = false) (z : Int) (hz : 0 < z ∧ z ≤ 100) : Con l b0 yX7_fails cX7_fails 2 (some .boolean) 1 0 0 [aO 40 0, aI z] ad cntM M (fun r M' => FlM M M' ∧ M'.1 40 0 0 = z ∧ r = some (aI 1)) noX := by
  refine Con.of hl pl_X7 (Nat.le_of_ble_eq_true rfl) ?_
  intro D cA p e s m args below meth c C hr
  refine w_aload_n C dX7_fails_0 rfl ?_
  refine w_iload_n C dX7_fails_1 rfl ?_
  refine p_X7_109 C dX7_fails_2 (by first | assumption | exact Nat.zero_lt_one | exact Nat.zero_lt_two | exact Nat.one_lt_two) ?_
  refine w_iload_n C dX7_fails_5 rfl ?_
  refine w_if_le C dX7_fails_6 (by omega) (fun h6 => ?_) (fun h6 => ?_)
  · refine w_iconst C dX7_fails_13 ?_
    refine w_iret C hr dX7_fails_14 (by first | exact narrow_z (b2_01 _) | exact narrow_z (by omega)) (⟨⟨fun k s h => by rw [uI_get, if_neg (by omega)], rfl⟩, rfl, by first | rfl | (exfalso; omega)⟩) (by decide) (by decide)
  · refine w_iconst C dX7_fails_9 ?_
    refine w_goto C dX7_fails_10 ?_
    refine w_iret C hr dX7_fails_14 (by first | exact narrow_z (b2_01 _) | exact narrow_z (by omega)) (⟨⟨fun k s h => by rw [uI_get, if_neg (by omega)], rfl⟩, rfl, by first | rfl | (exfalso; omega)⟩) (by decide) (by decide)
theorem c_X7_failsN (hl : l.stackTraces = false) (z : Int) (hz : z = 0) : Con l b0 yX7_fails cX7_fails 2 (some .boolean) 1 0 0 [aO 40 0, aI z] ad cntM M (fun r M' => FlM M M' ∧ M'.1 40 0 0 = z ∧ r = some (aI 0)) noX := by
  refine Con.of hl pl_X7 (Nat.le_of_ble_eq_true rfl) ?_
  intro D cA p e s m args below meth c C hr
  refine w_aload_n C dX7_fails_0 rfl ?_
  refine w_iload_n C dX7_fails_1 rfl ?_
  refine p_X7_109 C dX7_fails_2 (by first | assumption | exact Nat.zero_lt_one | exact Nat.zero_lt_two | exact Nat.one_lt_two) ?_
  refine w_iload_n C dX7_fails_5 rfl ?_
  refine w_if_le C dX7_fails_6 (by omega) (fun h6 => ?_) (fun h6 => ?_)
  · refine w_iconst C dX7_fails_13 ?_
    refine w_iret C hr dX7_fails_14 (by first | exact narrow_z (b2_01 _) | exact narrow_z (by omega)) (⟨⟨fun k s h => by rw [uI_get, if_neg (by omega)], rfl⟩, rfl, by first | rfl | (exfalso; omega)⟩) (by decide) (by decide)
  · refine w_iconst C dX7_fails_9 ?_
    refine w_goto C dX7_fails_10 ?_
    refine w_iret C hr dX7_fails_14 (by first | exact narrow_z (b2_01 _) | exact narrow_z (by omega)) (⟨⟨fun k s h => by rw [uI_get, if_neg (by omega)], rfl⟩, rfl, by first | rfl | (exfalso; omega)⟩) (by decide) (by decide)
theorem c_X7_thrown (hl : l.stackTraces = false) : Con l b0 yX7_thrown cX7_thrown 1 (some .int) 1 0 0 [aO 40 0] ad cntM M (fun r M' => M' = M ∧ r = some (aI (M.1 40 0 0))) noX := by
  refine Con.of hl pl_X7 (Nat.le_of_ble_eq_true rfl) ?_
  intro D cA p e s m args below meth c C hr
  refine w_aload_n C dX7_thrown_0 rfl ?_
  refine g_X7_109 C dX7_thrown_1 (by first | assumption | exact Nat.zero_lt_one | exact Nat.zero_lt_two | exact Nat.one_lt_two) ?_
  refine w_iret C hr dX7_thrown_4 rfl (⟨rfl, rfl⟩) (by decide) (by decide)
theorem c_X7_in (hl : l.stackTraces = false) (v a b : Int) (hv : -2147483648 ≤ v ∧ v ≤ 2147483647) (ha : -2147483648 ≤ a ∧ a ≤ 2147483647) (hb : -2147483648 ≤ b ∧ b ≤ 2147483647) : Con l b0 yX7_in cX7_in 3 (some .boolean) 1 0 0 [aI v, aI a, aI b] ad cntM M (fun r M' => M' = M ∧ r = some (aI (b2 (a ≤ v ∧ v ≤ b)))) noX := by
  refine Con.of hl pl_X7 (Nat.le_of_ble_eq_true rfl) ?_
  intro D cA p e s m args below meth c C hr
  refine w_iload_n C dX7_in_0 rfl ?_
  refine w_iload_n C dX7_in_1 rfl ?_
  refine w_icmp_lt C dX7_in_2 (by omega) (by omega) (fun h2 => ?_) (fun h2 => ?_)
  · refine w_iconst C dX7_in_14 ?_
    refine w_iret C hr dX7_in_15 (by first | exact narrow_z (b2_01 _) | exact narrow_z (by omega)) (⟨rfl, by first | (rw [b2_f (by omega)]) | (rw [b2_t (by omega)])⟩) (by decide) (by decide)
  · refine w_iload_n C dX7_in_5 rfl ?_
    refine w_iload_n C dX7_in_6 rfl ?_
    refine w_icmp_gt C dX7_in_7 (by omega) (by omega) (fun h7 => ?_) (fun h7 => ?_)
    · refine w_iconst C dX7_in_14 ?_
      refine w_iret C hr dX7_in_15 (by first | exact narrow_z (b2_01 _) | exact narrow_z (by omega)) (⟨rfl, by first | (rw [b2_f (by omega)]) | (rw [b2_t (by omega)])⟩) (by decide) (by decide)
    · refine w_iconst C dX7_in_10 ?_
      refine w_goto C dX7_in_11 ?_
      refine w_iret C hr dX7_in_15 (by first | exact narrow_z (b2_01 _) | exact narrow_z (by omega)) (⟨rfl, by first | (rw [b2_f (by omega)]) | (rw [b2_t (by omega)])⟩) (by decide) (by decide)
theorem c_X7_columns (hl : l.stackTraces = false) {S : Sg} {P : List Pc} {nx : Nat} (hG : GInv S) (hR : RepMo S P nx M) : Con l b0 yX7_columns cX7_columns 1 (some .int) 1 0 0 [aO 40 0] ad cntM M (fun r M' => M' = M ∧ r = some (aI (colsS S : Nat))) noX := by
  obtain ⟨r1, -, r3, -⟩ := hR.rg hG
  have e1 := hR.1.1
  have e3 := hR.1.2.2.1
  refine Con.of hl pl_X7 (Nat.le_of_ble_eq_true rfl) ?_
  intro D cA p e s m args below meth c C hr
  refine w_aload_n C dX7_columns_0 rfl ?_
  refine g_X7_118 C dX7_columns_1 (by first | assumption | exact Nat.zero_lt_one | exact Nat.zero_lt_two | exact Nat.one_lt_two) ?_
  refine w_if_eq C dX7_columns_4 (by omega) (fun h4 => ?_) (fun h4 => ?_)
  · refine w_aload_n C dX7_columns_16 rfl ?_
    refine g_X7_7 C dX7_columns_17 (by first | assumption | exact Nat.zero_lt_one | exact Nat.zero_lt_two | exact Nat.one_lt_two) ?_
    refine w_iret C hr dX7_columns_20 rfl (⟨rfl, by unfold colsS; first | (rw [if_pos (by omega), e1]; rfl) | (rw [if_neg (by omega), e1])⟩) (by decide) (by decide)
  · refine w_aload_n C dX7_columns_7 rfl ?_
    refine g_X7_7 C dX7_columns_8 (by first | assumption | exact Nat.zero_lt_one | exact Nat.zero_lt_two | exact Nat.one_lt_two) ?_
    refine w_iconst C dX7_columns_11 ?_
    refine w_idiv C dX7_columns_12 (by omega) (by omega) ?_
    refine w_goto C dX7_columns_13 ?_
    refine w_iret C hr dX7_columns_20 rfl (⟨rfl, by unfold colsS; first | (rw [if_pos (by omega), e1]; rfl) | (rw [if_neg (by omega), e1])⟩) (by decide) (by decide)
theorem c_X7_isBad (hl : l.stackTraces = false) {S : Sg} {P : List Pc} {nx : Nat} (hG : GInv S) (hR : RepMo S P nx M) (u v : Nat) (hu : u < 60) (hv : v < wdS S) : Con l b0 yX7_isBad cX7_isBad 3 (some .boolean) 1 0 0 [aO 40 0, aI u, aI v] ad cntM M (fun r M' => M' = M ∧ r = some (aI (b2 (badS S u v = true)))) noX := by
  obtain ⟨r1, -, r3, -⟩ := hR.rg hG
  have e1 := hR.1.1
  have e3 := hR.1.2.2.1
  have f1 := hR.2.1 (12 * u + v) (by omega)
  have f2 := hR.2.1 (12 * u + (wdS S - 1 - v)) (by omega)
  have z1 := hG.2.2.2.2.2.2.2.2.1 (12 * u + v) (by omega)
  have z2 := hG.2.2.2.2.2.2.2.2.1 (12 * u + (wdS S - 1 - v)) (by omega)
  have eb : badS S u v = true ↔ flS S (12 * u + v) ≠ 0 ∨ (fdS S = 1 ∧ flS S (12 * u + (wdS S - 1 - v)) ≠ 0) := by
    unfold badS
    simp [hv]
  refine Con.of hl pl_X7 (Nat.le_of_ble_eq_true rfl) ?_
  intro D cA p e s m args below meth c C hr
  refine w_aload_n C dX7_isBad_0 rfl ?_
  refine g_X7_13 C dX7_isBad_1 (by first | assumption | exact Nat.zero_lt_one | exact Nat.zero_lt_two | exact Nat.one_lt_two) ?_
  refine w_bipush (v := 12) C dX7_isBad_4 rfl ?_
  refine w_iload_n C dX7_isBad_6 rfl ?_
  refine w_imul C dX7_isBad_7 ?_
  refine w_iload_n C dX7_isBad_8 rfl ?_
  refine w_iadd C dX7_isBad_9 ?_
  refine w_zaldN (j := 12 * u + v) C dX7_isBad_10 (by first | assumption | exact Nat.zero_lt_one | exact Nat.zero_lt_two | exact Nat.one_lt_two) ZA_41 (by omega) (by omega) ?_
  refine w_if_ne C dX7_isBad_11 (by omega) (fun h11 => ?_) (fun h11 => ?_)
  · refine w_iconst C dX7_isBad_42 ?_
    refine w_goto C dX7_isBad_43 ?_
    refine w_iret C hr dX7_isBad_47 (by first | exact narrow_z (b2_01 _) | exact narrow_z (by omega)) (⟨rfl, by first | (rw [b2_f (fun q => by have := eb.mp q; omega)]) | (rw [b2_t (eb.mpr (by omega))])⟩) (by decide) (by decide)
  · refine w_aload_n C dX7_isBad_14 rfl ?_
    refine g_X7_118 C dX7_isBad_15 (by first | assumption | exact Nat.zero_lt_one | exact Nat.zero_lt_two | exact Nat.one_lt_two) ?_
    refine w_if_eq C dX7_isBad_18 (by omega) (fun h18 => ?_) (fun h18 => ?_)
    · refine w_iconst C dX7_isBad_46 ?_
      refine w_iret C hr dX7_isBad_47 (by first | exact narrow_z (b2_01 _) | exact narrow_z (by omega)) (⟨rfl, by first | (rw [b2_f (fun q => by have := eb.mp q; omega)]) | (rw [b2_t (eb.mpr (by omega))])⟩) (by decide) (by decide)
    · refine w_aload_n C dX7_isBad_21 rfl ?_
      refine g_X7_13 C dX7_isBad_22 (by first | assumption | exact Nat.zero_lt_one | exact Nat.zero_lt_two | exact Nat.one_lt_two) ?_
      refine w_bipush (v := 12) C dX7_isBad_25 rfl ?_
      refine w_iload_n C dX7_isBad_27 rfl ?_
      refine w_imul C dX7_isBad_28 ?_
      refine w_aload_n C dX7_isBad_29 rfl ?_
      refine g_X7_7 C dX7_isBad_30 (by first | assumption | exact Nat.zero_lt_one | exact Nat.zero_lt_two | exact Nat.one_lt_two) ?_
      refine w_iadd C dX7_isBad_33 ?_
      refine w_iconst C dX7_isBad_34 ?_
      refine w_isub C dX7_isBad_35 ?_
      refine w_iload_n C dX7_isBad_36 rfl ?_
      refine w_isub C dX7_isBad_37 ?_
      refine w_zaldN (j := 12 * u + (wdS S - 1 - v)) C dX7_isBad_38 (by first | assumption | exact Nat.zero_lt_one | exact Nat.zero_lt_two | exact Nat.one_lt_two) ZA_41 (by omega) (by omega) ?_
      refine w_if_eq C dX7_isBad_39 (by omega) (fun h39 => ?_) (fun h39 => ?_)
      · refine w_iconst C dX7_isBad_46 ?_
        refine w_iret C hr dX7_isBad_47 (by first | exact narrow_z (b2_01 _) | exact narrow_z (by omega)) (⟨rfl, by first | (rw [b2_f (fun q => by have := eb.mp q; omega)]) | (rw [b2_t (eb.mpr (by omega))])⟩) (by decide) (by decide)
      · refine w_iconst C dX7_isBad_42 ?_
        refine w_goto C dX7_isBad_43 ?_
        refine w_iret C hr dX7_isBad_47 (by first | exact narrow_z (b2_01 _) | exact narrow_z (by omega)) (⟨rfl, by first | (rw [b2_f (fun q => by have := eb.mp q; omega)]) | (rw [b2_t (eb.mpr (by omega))])⟩) (by decide) (by decide)
theorem c_X7_setCloth (hl : l.stackTraces = false) {S : Sg} {P : List Pc} {nx : Nat} (hI : Inv S P nx) (hR : RepMo S P nx M) (a : Int) (b : Nat) (c' : Int) (ha : -2147483648 ≤ a ∧ a ≤ 2147483647) (hb : b ≤ 1) (hc : -2147483648 ≤ c' ∧ c' ≤ 2147483647) : Con l b0 yX7_setCloth cX7_setCloth 5 (some .int) 2 0 0 [aO 40 0, aI a, aI b, aI c'] ad cntM M (okM (oSetCloth a b c' S P nx)) noX := by
  obtain ⟨r1, r2, r3, r4, r5, r6⟩ := hR.rg hI.1
  have e17 := hR.1.2.2.2.2.2.2.1
  have e5 := hR.1.2.2.2.2.1
  have hP := hI.2.2.1
  have b1 := b2_01 (2 ≤ a ∧ a ≤ 12)
  have b3 := b2_01 (0 ≤ c' ∧ c' ≤ 6)
  refine Con.of hl pl_X7 (Nat.le_of_ble_eq_true rfl) ?_
  intro D cA p e s m args below meth c C hr
  refine w_aload_n C dX7_setCloth_0 rfl ?_
  refine w_iload_n C dX7_setCloth_1 rfl ?_
  refine w_iconst C dX7_setCloth_2 ?_
  refine w_bipush (v := 12) C dX7_setCloth_3 rfl ?_
  refine w_callS C dX7_setCloth_5 (c_X7_in hl a 2 12 (by omega) (by omega) (by omega)) mX7_in sX7_in lk_X7_122 rfl rfl ⟨by decide, by decide, by decide, by decide⟩ (Nat.le_of_ble_eq_true rfl) (fun _ _ h => h.elim) ⟨by decide, by decide⟩ (fun r_ M_ q5 => ?_)
  obtain ⟨rfl, rfl⟩ := q5
  refine w_if_eq C dX7_setCloth_8 (by omega) (fun h8 => ?_) (fun h8 => ?_)
  · have y1 : ¬ (2 ≤ a ∧ a ≤ 12) := fun q => by rw [b2_t q] at h8; omega
    refine w_iconst C dX7_setCloth_21 ?_
    refine w_goto C dX7_setCloth_22 ?_
    refine w_callV C dX7_setCloth_44 (c_X7_failsY hl 1 (by omega)) mX7_fails vX7_fails lk_X7_129 (by first | assumption | exact Nat.zero_lt_one | exact Nat.zero_lt_two | exact Nat.one_lt_two) rfl rfl rfl rfl ⟨by decide, by decide, by decide, by decide⟩ (Nat.le_of_ble_eq_true rfl) (fun _ _ h => h.elim) ⟨by decide, by decide⟩ (fun r_ MF q44 => ?_)
    obtain ⟨kF, kT, rfl⟩ := q44
    have hRF := hR.fr kF.fr
    refine w_if_eq_n C dX7_setCloth_47 (by omega) (by decide) ?_
    refine w_iconst C dX7_setCloth_50 ?_
    refine w_iret C hr dX7_setCloth_51 rfl (by first | exact okM_no (i := 1) (by unfold oSetCloth; rw [if_pos (by omega)]) (by decide) rfl kT hRF | exact okM_no (i := 2) (by unfold oSetCloth; rw [if_neg (by omega), if_pos (by omega)]) (by decide) rfl kT hRF) (by decide) (by decide)
  · have y1 : 2 ≤ a ∧ a ≤ 12 := Decidable.byContradiction fun q => h8 (b2_f q)
    refine w_iload_n C dX7_setCloth_11 rfl ?_
    refine w_iconst C dX7_setCloth_12 ?_
    refine w_bipush (v := 6) C dX7_setCloth_13 rfl ?_
    refine w_callS C dX7_setCloth_15 (c_X7_in hl c' 0 6 (by omega) (by omega) (by omega)) mX7_in sX7_in lk_X7_122 rfl rfl ⟨by decide, by decide, by decide, by decide⟩ (Nat.le_of_ble_eq_true rfl) (fun _ _ h => h.elim) ⟨by decide, by decide⟩ (fun r_ M_ q15 => ?_)
    obtain ⟨rfl, rfl⟩ := q15
    refine w_if_ne C dX7_setCloth_18 (by omega) (fun h18 => ?_) (fun h18 => ?_)
    · have y2 : 0 ≤ c' ∧ c' ≤ 6 := Decidable.byContradiction fun q => h18 (b2_f q)
      refine w_aload_n C dX7_setCloth_25 rfl ?_
      refine g_X7_112 C dX7_setCloth_26 (by first | assumption | exact Nat.zero_lt_one | exact Nat.zero_lt_two | exact Nat.one_lt_two) ?_
      refine w_if_gt C dX7_setCloth_29 (by omega) (fun h29 => ?_) (fun h29 => ?_)
      · refine w_iconst C dX7_setCloth_39 ?_
        refine w_goto C dX7_setCloth_40 ?_
        refine w_callV C dX7_setCloth_44 (c_X7_failsY hl 2 (by omega)) mX7_fails vX7_fails lk_X7_129 (by first | assumption | exact Nat.zero_lt_one | exact Nat.zero_lt_two | exact Nat.one_lt_two) rfl rfl rfl rfl ⟨by decide, by decide, by decide, by decide⟩ (Nat.le_of_ble_eq_true rfl) (fun _ _ h => h.elim) ⟨by decide, by decide⟩ (fun r_ MF q44 => ?_)
        obtain ⟨kF, kT, rfl⟩ := q44
        have hRF := hR.fr kF.fr
        refine w_if_eq_n C dX7_setCloth_47 (by omega) (by decide) ?_
        refine w_iconst C dX7_setCloth_50 ?_
        refine w_iret C hr dX7_setCloth_51 rfl (by first | exact okM_no (i := 1) (by unfold oSetCloth; rw [if_pos (by omega)]) (by decide) rfl kT hRF | exact okM_no (i := 2) (by unfold oSetCloth; rw [if_neg (by omega), if_pos (by omega)]) (by decide) rfl kT hRF) (by decide) (by decide)
      · refine w_aload_n C dX7_setCloth_32 rfl ?_
        refine g_X7_126 C dX7_setCloth_33 (by first | assumption | exact Nat.zero_lt_one | exact Nat.zero_lt_two | exact Nat.one_lt_two) ?_
        refine w_if_le C dX7_setCloth_36 (by omega) (fun h36 => ?_) (fun h36 => ?_)
        · refine w_iconst C dX7_setCloth_43 ?_
          refine w_callV C dX7_setCloth_44 (c_X7_failsN hl 0 (by omega)) mX7_fails vX7_fails lk_X7_129 (by first | assumption | exact Nat.zero_lt_one | exact Nat.zero_lt_two | exact Nat.one_lt_two) rfl rfl rfl rfl ⟨by decide, by decide, by decide, by decide⟩ (Nat.le_of_ble_eq_true rfl) (fun _ _ h => h.elim) ⟨by decide, by decide⟩ (fun r_ MF q44 => ?_)
          obtain ⟨kF, kT, rfl⟩ := q44
          have hRF := hR.fr kF.fr
          refine w_if_eq_y C dX7_setCloth_47 (by omega) (by decide) ?_
          refine w_aload_n C dX7_setCloth_52 rfl ?_
          refine g_X7_7 C dX7_setCloth_53 (by first | assumption | exact Nat.zero_lt_one | exact Nat.zero_lt_two | exact Nat.one_lt_two) ?_
          refine w_istore C dX7_setCloth_56 (by decide) ?_
          refine w_aload_n C dX7_setCloth_58 rfl ?_
          refine w_iload_n C dX7_setCloth_59 rfl ?_
          refine p_X7_7 C dX7_setCloth_60 (by first | assumption | exact Nat.zero_lt_one | exact Nat.zero_lt_two | exact Nat.one_lt_two) ?_
          refine w_aload_n C dX7_setCloth_63 rfl ?_
          refine w_iload_n C dX7_setCloth_64 rfl ?_
          refine p_X7_133 C dX7_setCloth_65 (by first | assumption | exact Nat.zero_lt_one | exact Nat.zero_lt_two | exact Nat.one_lt_two) (by omega) ?_
          refine w_aload_n C dX7_setCloth_68 rfl ?_
          refine w_iload_n C dX7_setCloth_69 rfl ?_
          refine p_X7_136 C dX7_setCloth_70 (by first | assumption | exact Nat.zero_lt_one | exact Nat.zero_lt_two | exact Nat.one_lt_two) ?_
          refine w_iload C dX7_setCloth_73 rfl ?_
          obtain ⟨⟨m1, m2, m3, m4, m5, m6, m7, m8, m9, m10, m11⟩, n2, n3, n4, n5, n6, n7⟩ := hRF
          have hP0 : P = [] := List.eq_nil_of_length_eq_zero (by omega)
          subst hP0
          refine w_iret C hr dX7_setCloth_75 rfl (okM_of (S' := up3 (up3 (up3 S 0 0 0 a.toNat) 1 0 0 b) 3 0 0 c'.toNat) (P' := []) (nx' := nx) (v := (wdS S : Int)) (by unfold oSetCloth; rw [if_neg (by omega), if_neg (by simp; omega)]) (congrArg (fun z : Int => some (aI z)) m1) kT ⟨⟨(Int.toNat_of_nonneg (show 0 ≤ a by omega)).symm, rfl, m3, (Int.toNat_of_nonneg (show 0 ≤ c' by omega)).symm, m5, m6, m7, m8, m9, m10, m11⟩, n2, n3, n4, RepMM.cg (S := S) (fun p hp => absurd hp List.not_mem_nil) (fun q => absurd rfl q) n5, n6, n7⟩) (by decide) (by decide)
        · refine w_iconst C dX7_setCloth_39 ?_
          refine w_goto C dX7_setCloth_40 ?_
          refine w_callV C dX7_setCloth_44 (c_X7_failsY hl 2 (by omega)) mX7_fails vX7_fails lk_X7_129 (by first | assumption | exact Nat.zero_lt_one | exact Nat.zero_lt_two | exact Nat.one_lt_two) rfl rfl rfl rfl ⟨by decide, by decide, by decide, by decide⟩ (Nat.le_of_ble_eq_true rfl) (fun _ _ h => h.elim) ⟨by decide, by decide⟩ (fun r_ MF q44 => ?_)
          obtain ⟨kF, kT, rfl⟩ := q44
          have hRF := hR.fr kF.fr
          refine w_if_eq_n C dX7_setCloth_47 (by omega) (by decide) ?_
          refine w_iconst C dX7_setCloth_50 ?_
          refine w_iret C hr dX7_setCloth_51 rfl (by first | exact okM_no (i := 1) (by unfold oSetCloth; rw [if_pos (by omega)]) (by decide) rfl kT hRF | exact okM_no (i := 2) (by unfold oSetCloth; rw [if_neg (by omega), if_pos (by omega)]) (by decide) rfl kT hRF) (by decide) (by decide)
    · have y2 : ¬ (0 ≤ c' ∧ c' ≤ 6) := fun q => h18 (by rw [b2_t q]; decide)
      refine w_iconst C dX7_setCloth_21 ?_
      refine w_goto C dX7_setCloth_22 ?_
      refine w_callV C dX7_setCloth_44 (c_X7_failsY hl 1 (by omega)) mX7_fails vX7_fails lk_X7_129 (by first | assumption | exact Nat.zero_lt_one | exact Nat.zero_lt_two | exact Nat.one_lt_two) rfl rfl rfl rfl ⟨by decide, by decide, by decide, by decide⟩ (Nat.le_of_ble_eq_true rfl) (fun _ _ h => h.elim) ⟨by decide, by decide⟩ (fun r_ MF q44 => ?_)
      obtain ⟨kF, kT, rfl⟩ := q44
      have hRF := hR.fr kF.fr
      refine w_if_eq_n C dX7_setCloth_47 (by omega) (by decide) ?_
      refine w_iconst C dX7_setCloth_50 ?_
      refine w_iret C hr dX7_setCloth_51 rfl (by first | exact okM_no (i := 1) (by unfold oSetCloth; rw [if_pos (by omega)]) (by decide) rfl kT hRF | exact okM_no (i := 2) (by unfold oSetCloth; rw [if_neg (by omega), if_pos (by omega)]) (by decide) rfl kT hRF) (by decide) (by decide)
end Mo
