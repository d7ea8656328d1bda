/-! Marker: put, putAtSpot, rowsUsed -/
def mkK (mi : Nat) : Nat → Nat → Prop := fun k i => (k = 3 ∧ i / 40 = mi) ∨ ((k = 2 ∨ k = 12 ∨ k = 22 ∨ k = 23 ∨ k = 24 ∨ k = 25 ∨ k = 26) ∧ i = mi)
theorem remS_bd {S : Sg} (hG : GInv S) (z : Int) : 0 ≤ remS S z ∧ remS S z ≤ 6 := by
  unfold remS
  have h6 := hG.2.2.2.1
  split
  · have := Int.emod_nonneg z (b := (srS S : Int)) (by omega)
    have := Int.emod_lt_of_pos z (b := (srS S : Int)) (by omega)
    omega
  · omega
def putM (M : Mem) (mi id j o : Nat) (n x t row col w : Int) : Mem := uI (uI (uI (uI (uI (uI (uR (uR (uI M 3 id 0 x) 3 id 1 (some j)) 3 id 2 (some o)) 3 id 3 t) 3 id 4 row) 3 id 5 col) 3 id 6 w) 2 mi 1 (n + 1)) 2 mi 2 (x + 1)
def ptK (mi id : Nat) : Nat → Nat → Prop := fun k i => (k = 3 ∧ i = id) ∨ (k = 2 ∧ i = mi)
theorem putM_fr {M : Mem} {mi id j o : Nat} {n x t row col w : Int} : Fr (ptK mi id) M (putM M mi id j o n x t row col w) := by
  have h3 : ptK mi id 3 id := Or.inl ⟨rfl, rfl⟩
  have h2 : ptK mi id 2 mi := Or.inr ⟨rfl, rfl⟩
  unfold putM
  exact Fr.uI (Fr.uI (Fr.uI (Fr.uI (Fr.uI (Fr.uI (Fr.uR (Fr.uR (Fr.uI Fr.rf h3) h3) h3) h3) h3) h3) h3) h2) h2
theorem putM_at {M : Mem} {mi id j o : Nat} {n x t row col w : Int} : (putM M mi id j o n x t row col w).1 3 id 0 = x ∧ (putM M mi id j o n x t row col w).2.1 3 id 1 = some j ∧ (putM M mi id j o n x t row col w).2.1 3 id 2 = some o ∧ (putM M mi id j o n x t row col w).1 3 id 3 = t ∧ (putM M mi id j o n x t row col w).1 3 id 4 = row ∧ (putM M mi id j o n x t row col w).1 3 id 5 = col ∧ (putM M mi id j o n x t row col w).1 3 id 6 = w ∧ (putM M mi id j o n x t row col w).1 2 mi 1 = n + 1 ∧ (putM M mi id j o n x t row col w).1 2 mi 2 = x + 1 := by
  simp [putM, uI_get, uR_get, uI_r, uR_i]
theorem remP_def (S : Sg) (nx j t row col w : Nat) : remP S (nx, j, t, row, col, w) = remS S ((row : Int) + mkR S j t w) := rfl
theorem RepMF_put {f : Nat → Nat} {mi : Nat} {S : Sg} {P : List Pc} {nx : Nat} {M M6 M7 : Mem} {j t row col w : Nat} (hG : GInv S) (hmi2 : mi < 2) (hP : P.length < 40) (hM : RepMF f mi S P nx M) (hI' : PInv S (P ++ [(nx, j, t, row, col, w)]) (nx + 1)) (hfree : reasonS S P j t w row col = 45) (hF : Fr (fun k i => ptK mi (40 * mi + f P.length) k i ∨ cvK mi k i) M M6) (hpc : RepPc (nx, j, t, row, col, w) (40 * mi + f P.length) M6) (e7 : M6.1 2 mi 1 = (P.length : Int) + 1) (e8 : M6.1 2 mi 2 = (nx : Int) + 1) (hO : ∀ k, k < 720 → M6.1 22 mi k = if cv S (nx, j, t, row, col, w) (k / 12) (k % 12) = true then (nx : Int) else M.1 22 mi k) (hT : ∀ u, u < 60 → M6.1 23 mi u = (bitsN (ovr S (nx, j, t, row, col, w) (nx : Int) (fun u v => decide (clo S P (12 * u + v) ≠ -1)) u) 12 : Nat)) (hM7 : M7 = if gpS S j = 0 then M6 else uI (uI M6 24 mi (gpS S j - 1) (M6.1 24 mi (gpS S j - 1) + 1)) 25 mi (gpS S j - 1) (remS S ((row : Int) + mkR S j t w))) : Fr (mkK mi) M M7 ∧ RepMF f mi S (P ++ [(nx, j, t, row, col, w)]) (nx + 1) M7 := by
  obtain ⟨a1, a2, ⟨b1, b2', b3⟩, a4, a5, a6, a7⟩ := hM
  have hf40 := (b1 P.length hP).1
  have hg4 := (hG.2.2.2.2.2.2.2.2.2.1 j).2.1
  have hFm : Fr (mkK mi) M M6 := hF.mono fun k i q => by
    rcases q with (q | q) | q
    · exact Or.inl ⟨q.1, by omega⟩
    · exact Or.inr ⟨Or.inl q.1, q.2⟩
    · exact Or.inr ⟨by rcases q.1 with h | h <;> simp [h], q.2⟩
  have r7 : ∀ k i s, k ≠ 24 → k ≠ 25 → M7.1 k i s = M6.1 k i s := fun k i s h1 h2 => by
    rw [hM7]
    split
    · rfl
    · rw [uI_get, if_neg (fun q => h2 q.1), uI_get, if_neg (fun q => h1 q.1)]
  have r72 : M7.2 = M6.2 := by
    rw [hM7]
    split <;> rfl
  have hlen : (P ++ [(nx, j, t, row, col, w)]).length = P.length + 1 := by simp
  have e24 : ∀ g, M6.1 24 mi g = M.1 24 mi g := fun g => by
    rw [(hF 24 mi (by rintro ((q | q) | q) <;> first | exact absurd q.1 (by decide) | (rcases q.1 with h | h <;> exact absurd h (by decide)))).1]
  have e25 : ∀ g, M6.1 25 mi g = M.1 25 mi g := fun g => by
    rw [(hF 25 mi (by rintro ((q | q) | q) <;> first | exact absurd q.1 (by decide) | (rcases q.1 with h | h <;> exact absurd h (by decide)))).1]
  have e12 : ∀ g, M6.2.1 12 mi g = M.2.1 12 mi g := fun g => by
    rw [(hF 12 mi (by rintro ((q | q) | q) <;> first | exact absurd q.1 (by decide) | (rcases q.1 with h | h <;> exact absurd h (by decide)))).2.1]
  refine ⟨?_, ?_, ?_, ⟨fun i hi => ?_, b2', fun i p hp => ?_⟩, fun k hk => ?_, fun u hu => ?_, fun g hg => ?_, fun p hp hg => ?_⟩
  · rw [hM7]
    split
    · exact hFm
    · exact Fr.uI (Fr.uI hFm (Or.inr ⟨by simp, rfl⟩)) (Or.inr ⟨by simp, rfl⟩)
  · rw [r7 _ _ _ (by decide) (by decide), e7, hlen]
    rfl
  · rw [r7 _ _ _ (by decide) (by decide), e8]
    rfl
  · rw [r72, e12]
    exact b1 i hi
  · have pc7 : ∀ {p : Pc} {id : Nat}, RepPc p id M6 → RepPc p id M7 := fun h => by
      obtain ⟨c1, c2, c3, c4, c5, c6, c7⟩ := h
      refine ⟨?_, ?_, ?_, ?_, ?_, ?_, ?_⟩ <;> first | (rw [r7 _ _ _ (by decide) (by decide)]; assumption) | (rw [r72]; assumption)
    by_cases hi : i < P.length
    · rw [List.getElem?_append_left hi] at hp
      refine pc7 ((b3 i p hp).fr hF ?_)
      have hi40 : i < 40 := by omega
      rintro ((q | q) | q)
      · have := b2' i P.length hi40 hP (by have := q.2; omega)
        omega
      · exact absurd q.1 (by decide)
      · rcases q.1 with h | h <;> exact absurd h (by decide)
    · have h9 := (List.getElem?_eq_some_iff.mp hp).1
      rw [hlen] at h9
      have hi2 : i = P.length := by omega
      subst hi2
      rw [List.getElem?_append_right (Nat.le_refl _), Nat.sub_self] at hp
      cases hp
      exact pc7 hpc
  · rw [r7 _ _ _ (by decide) (by decide), hO k hk, clo_app (fun h => cv_free hG hfree h), a4 k hk]
  · rw [r7 _ _ _ (by decide) (by decide), hT u hu]
    refine congrArg (fun z : Nat => (z : Int)) (bitsN_cg fun v hv => ?_)
    have e9 : (12 * u + v) / 12 = u ∧ (12 * u + v) % 12 = v := by omega
    have h9 := clo_app (S := S) (P := P) (p := (nx, j, t, row, col, w)) (k := 12 * u + v) (fun h => cv_free hG hfree h)
    rw [e9.1, e9.2] at h9
    unfold ovr
    rw [h9]
    by_cases hc : cv S (nx, j, t, row, col, w) u v = true
    · rw [if_pos hc, if_pos hc]
    · rw [if_neg hc, if_neg hc]
  · rw [inGr_app]
    show M7.1 24 mi g = ((inGr S P (g + 1) + if gpS S j = g + 1 then 1 else 0 : Nat) : Int)
    rw [hM7]
    by_cases h0 : gpS S j = 0
    · rw [if_pos h0, if_neg (by omega), e24, a6 g hg]
      rfl
    · rw [if_neg h0, uI_get, if_neg (fun q => absurd q.1 (by decide)), uI_get]
      by_cases h1 : gpS S j = g + 1
      · rw [if_pos ⟨rfl, rfl, by omega⟩, if_pos h1, e24, h1, Nat.add_sub_cancel, a6 g hg]
        rfl
      · rw [if_neg (fun q => h1 (by omega)), if_neg h1, e24, a6 g hg]
        rfl
  · have hpg4 := (hG.2.2.2.2.2.2.2.2.2.1 (pShp p)).2.1
    have hnew : (nx, j, t, row, col, w) ∈ P ++ [(nx, j, t, row, col, w)] := List.mem_append_right _ (List.mem_singleton.mpr rfl)
    rw [hM7]
    by_cases h1 : gpS S (pShp p) = gpS S j
    · rw [if_neg (by omega), uI_get, h1, if_pos ⟨rfl, rfl, rfl⟩]
      by_cases hs : 2 ≤ srS S
      · exact hI'.2.2 _ hnew p hp h1.symm (by show gpS S j ≠ 0; omega) hs
      · unfold remP remS
        rw [if_neg hs, if_neg hs]
    · have hpP : p ∈ P := by
        rcases List.mem_append.mp hp with h | h
        · exact h
        · rw [List.mem_singleton.mp h] at h1
          exact absurd rfl h1
      by_cases h0 : gpS S j = 0
      · rw [if_pos h0, e25]
        exact a7 p hpP hg
      · rw [if_neg h0, uI_get, if_neg (fun q => h1 (by have := q.2.2; omega)), uI_get, if_neg (fun q => absurd q.1 (by decide)), e25]
        exact a7 p hpP hg
section Mk
variable {l : Launch} {b0 : Nat → Prop} {ad : Ads} {ns nt : Nat} {M : Mem}
theorem c_X1_put (hl : l.stackTraces = false) {S : Sg} {P : List Pc} {nx mi j : Nat} (hG : GInv S) (hmi : inD (cnt ns nt) 2 mi) (hP : P.length < 40) (hCl : RepCl S M) (hSh : RepSh S M) (hM : RepMk mi S P nx M) (hI : PInv S P nx) (hns : nsS S ≤ ns) (hj : j < nsS S) (t w : Nat) (ht : t < 4) (hw : w ≤ 1) (row col : Nat) (hfree : reasonS S P j t w row col = 45) (hnx : nx < 1000000) : Con l b0 yX1_put cX1_put 9 (some .int) 3 0 0 [aO 2 mi, aO 1 0, aO 4 j, aI t, aI row, aI col, aI w] ad (cnt ns nt) M (fun r9 M' => Fr (mkK mi) M M' ∧ RepMk mi S (P ++ [(nx, j, t, row, col, w)]) (nx + 1) M' ∧ r9 = some (aI nx)) noX := by
  obtain ⟨f, hM⟩ := hM
  have hM' := hM
  obtain ⟨a1, a2, ⟨b1, b2', b3⟩, a4, a5, a6, a7⟩ := hM'
  have hI' := PInv.put hG hI hj ht hw hfree
  obtain ⟨f1, f2, f3, ⟨f4, f4', f5⟩, f6, f7, f8⟩ := reason_free hfree
  have hj4 : inD (cnt ns nt) 4 j := by
    show j < ns
    omega
  have hj13 : inD (cnt ns nt) 13 j := by
    show j < ns
    omega
  have hmi2 : mi < 2 := hmi
  have i12 : inD (cnt ns nt) 12 mi := hmi
  have hcs := cols12 hG
  have hmb := mkR_bd S hG j t w
  have hbd := hgt_bd (dB S j) t w
  obtain ⟨⟨s1, s2, s3, s4, s5, s6, s7, s8⟩, -, s9⟩ := hSh j hj
  obtain ⟨p1, p2, p3, p4, p5, p6, p7, p8, p9⟩ := hG.2.2.2.2.2.2.2.2.2.1 j
  obtain ⟨o1, o2, o3, o4, o5, o6⟩ := ou_at (nt := nt) hSh hj hns ht hw f1
  obtain ⟨k0, hk0, hd0⟩ := s8.mp f1
  obtain ⟨x1, x2, x3, x4⟩ := hgt_cell (d := dB S j) (t := t) (mi := w) ⟨k0, hk0, hd0⟩
  obtain ⟨y1, y2, y3, y4⟩ := wid_cell (d := dB S j) (t := t) (mi := w) ⟨k0, hk0, hd0⟩
  have hf40 := (b1 P.length hP).1
  have i3 : inD (cnt ns nt) 3 (40 * mi + f P.length) := by
    show 40 * mi + f P.length < 80
    omega
  have hrb := remS_bd hG ((row : Int) + mkR S j t w)
  refine Con.of hl pl_X1 (Nat.le_of_ble_eq_true rfl) ?_
  intro D cA p e s m args below meth c C hr
  refine w_aload_n C dX1_put_0 rfl ?_
  refine w_iload_n C dX1_put_1 rfl ?_
  refine w_iload C dX1_put_2 rfl ?_
  refine w_callV C dX1_put_4 (c_X4_outlineFor hl hj4 hj13 (fun o ho => (s9 o ho).1) t w ht hw) mX4_outlineFor vX4_outlineFor lk_X1_55 (by first | assumption | exact Nat.zero_lt_one | exact Nat.zero_lt_two | exact Nat.one_lt_two) rfl rfl rfl rfl ⟨by decide, by decide, by decide, by decide⟩ (Nat.le_of_ble_eq_true rfl) (fun _ _ h => h.elim) ⟨by decide, by decide⟩ (fun r_ M_ q4 => ?_)
  obtain ⟨rfl, rfl⟩ := q4
  refine w_astore C dX1_put_7 (by decide) ?_
  refine w_aload_n C dX1_put_9 rfl ?_
  refine g_X1_40 C dX1_put_10 (by first | assumption | exact Nat.zero_lt_one | exact Nat.zero_lt_two | exact Nat.one_lt_two) ?_
  rw [a1]
  refine w_if_lt C dX1_put_13 (by omega) (fun h13 => ?_) (fun h13 => ?_)
  · omega
  · refine w_aload_n C dX1_put_16 rfl ?_
    refine g_X1_40 C dX1_put_17 (by first | assumption | exact Nat.zero_lt_one | exact Nat.zero_lt_two | exact Nat.one_lt_two) ?_
    refine w_aload_n C dX1_put_20 rfl ?_
    refine g_X1_11 C dX1_put_21 (by first | assumption | exact Nat.zero_lt_one | exact Nat.zero_lt_two | exact Nat.one_lt_two) ?_
    refine w_alen C dX1_put_24 i12 (Or.inr (Or.inr (Or.inr ⟨7, 3, by decide, RA_12⟩))) ?_
    rw [a1]
    refine w_icmp_ge C dX1_put_25 (by omega) (by omega) (fun h25 => ?_) (fun h25 => ?_)
    · omega
    · refine w_aload_n C dX1_put_28 rfl ?_
      refine g_X1_11 C dX1_put_29 (by first | assumption | exact Nat.zero_lt_one | exact Nat.zero_lt_two | exact Nat.one_lt_two) ?_
      refine w_aload_n C dX1_put_32 rfl ?_
      refine g_X1_40 C dX1_put_33 (by first | assumption | exact Nat.zero_lt_one | exact Nat.zero_lt_two | exact Nat.one_lt_two) ?_
      rw [a1]
      refine w_aald C dX1_put_36 i12 RA_12 rfl (by omega) ?_
      rw [Int.toNat_natCast, (b1 P.length hP).2]
      refine Wm.top (v' := aO 3 (40 * mi + f P.length)) rfl ?_
      refine w_goto C dX1_put_37 ?_
      refine w_astore C dX1_put_41 (by decide) ?_
      refine w_aload C dX1_put_43 rfl ?_
      refine w_ifnull C dX1_put_45 (fun h45 => ?_) (fun h45 => ?_)
      · cases h45
      · refine w_aload C dX1_put_48 rfl ?_
        refine w_ifnonnull C dX1_put_50 (fun h50 => ?_) (fun h50 => ?_)
        · refine w_aload C dX1_put_55 rfl ?_
          refine w_aload_n C dX1_put_57 rfl ?_
          refine g_X1_129 C dX1_put_58 (by first | assumption | exact Nat.zero_lt_one | exact Nat.zero_lt_two | exact Nat.one_lt_two) ?_
          rw [a2]
          refine p_X1_48 C dX1_put_61 (by first | assumption | exact Nat.zero_lt_one | exact Nat.zero_lt_two | exact Nat.one_lt_two) ?_
          refine w_aload C dX1_put_64 rfl ?_
          refine w_aload_n C dX1_put_66 rfl ?_
          refine p_X1_132 C dX1_put_67 (by first | assumption | exact Nat.zero_lt_one | exact Nat.zero_lt_two | exact Nat.one_lt_two) (by first | assumption | exact Nat.zero_lt_one | exact Nat.zero_lt_two | exact Nat.one_lt_two) ?_
          refine w_aload C dX1_put_70 rfl ?_
          refine w_aload C dX1_put_72 rfl ?_
          refine p_X1_136 C dX1_put_74 (by first | assumption | exact Nat.zero_lt_one | exact Nat.zero_lt_two | exact Nat.one_lt_two) (by first | assumption | exact Nat.zero_lt_one | exact Nat.zero_lt_two | exact Nat.one_lt_two) ?_
          refine w_aload C dX1_put_77 rfl ?_
          refine w_iload_n C dX1_put_79 rfl ?_
          refine p_X1_140 C dX1_put_80 (by first | assumption | exact Nat.zero_lt_one | exact Nat.zero_lt_two | exact Nat.one_lt_two) ?_
          refine w_aload C dX1_put_83 rfl ?_
          refine w_iload C dX1_put_85 rfl ?_
          refine p_X1_143 C dX1_put_87 (by first | assumption | exact Nat.zero_lt_one | exact Nat.zero_lt_two | exact Nat.one_lt_two) ?_
          refine w_aload C dX1_put_90 rfl ?_
          refine w_iload C dX1_put_92 rfl ?_
          refine p_X1_146 C dX1_put_94 (by first | assumption | exact Nat.zero_lt_one | exact Nat.zero_lt_two | exact Nat.one_lt_two) ?_
          refine w_aload C dX1_put_97 rfl ?_
          refine w_iload C dX1_put_99 rfl ?_
          refine p_X1_149 C dX1_put_101 (by first | assumption | exact Nat.zero_lt_one | exact Nat.zero_lt_two | exact Nat.one_lt_two) (by omega) ?_
          refine w_aload_n C dX1_put_104 rfl ?_
          refine w_dup C dX1_put_105 rfl ?_
          refine g_X1_40 C dX1_put_106 (by first | assumption | exact Nat.zero_lt_one | exact Nat.zero_lt_two | exact Nat.one_lt_two) ?_
          refine w_iconst C dX1_put_109 ?_
          refine w_iadd C dX1_put_110 ?_
          refine p_X1_40 C dX1_put_111 (by first | assumption | exact Nat.zero_lt_one | exact Nat.zero_lt_two | exact Nat.one_lt_two) ?_
          refine w_aload_n C dX1_put_114 rfl ?_
          refine w_dup C dX1_put_115 rfl ?_
          refine g_X1_129 C dX1_put_116 (by first | assumption | exact Nat.zero_lt_one | exact Nat.zero_lt_two | exact Nat.one_lt_two) ?_
          refine w_iconst C dX1_put_119 ?_
          refine w_iadd C dX1_put_120 ?_
          refine p_X1_129 C dX1_put_121 (by first | assumption | exact Nat.zero_lt_one | exact Nat.zero_lt_two | exact Nat.one_lt_two) ?_
          refine Wm.eqM (M' := putM M_ mi (40 * mi + f P.length) j (8 * j + (t + 4 * w)) P.length nx t row col w) (by unfold putM; rw [← a1, ← a2]; simp [uI_get, uR_i]) ?_
          have hF5 := putM_fr (M := M_) (mi := mi) (id := 40 * mi + f P.length) (j := j) (o := 8 * j + (t + 4 * w)) (n := P.length) (x := nx) (t := t) (row := row) (col := col) (w := w)
          have hA5 := putM_at (M := M_) (mi := mi) (id := 40 * mi + f P.length) (j := j) (o := 8 * j + (t + 4 * w)) (n := P.length) (x := nx) (t := t) (row := row) (col := col) (w := w)
          generalize putM M_ mi (40 * mi + f P.length) j (8 * j + (t + 4 * w)) P.length nx t row col w = M5 at hF5 hA5 ⊢
          obtain ⟨e0, e1, e2, e3, e4, e5, e6, e7, e8⟩ := hA5
          have n2 : ∀ {k i : Nat}, k ≠ 2 → k ≠ 3 → ¬ ptK mi (40 * mi + f P.length) k i := fun h2 h3 q => by
            rcases q with q | q
            · exact h3 q.1
            · exact h2 q.1
          refine w_aload_n C dX1_put_124 rfl ?_
          refine w_aload C dX1_put_125 rfl ?_
          refine w_iload C dX1_put_127 rfl ?_
          refine w_iload C dX1_put_129 rfl ?_
          refine w_aload C dX1_put_131 rfl ?_
          refine g_X1_48 C dX1_put_133 (by first | assumption | exact Nat.zero_lt_one | exact Nat.zero_lt_two | exact Nat.one_lt_two) ?_
          rw [e0]
          refine w_callV C dX1_put_136 (c_X1_cover hl (q := (nx, j, t, row, col, w)) (g := fun u v => decide (clo S P (12 * u + v) ≠ -1)) hmi o1 o2 (fun r hr => by rw [(hF5 31 _ (n2 (by decide) (by decide))).1]; exact o3 r hr) (by rw [(hF5 5 _ (n2 (by decide) (by decide))).1]; exact o4) (by show (row : Int) + hgt (dB S j) t w ≤ 60; omega) (by show (col : Int) + wid (dB S j) t w ≤ 12; omega) (by show row ≤ 65; omega) (by show col ≤ 12; omega) (fun u hu => by rw [(hF5 23 _ (n2 (by decide) (by decide))).1]; exact a5 u hu) (nx : Int) (by omega)) mX1_cover vX1_cover lk_X1_152 (by first | assumption | exact Nat.zero_lt_one | exact Nat.zero_lt_two | exact Nat.one_lt_two) rfl rfl rfl rfl ⟨by decide, by decide, by decide, by decide⟩ (Nat.le_of_ble_eq_true rfl) (fun _ _ h => h.elim) ⟨by decide, by decide⟩ (fun r_ M6 q136 => ?_)
          obtain ⟨hF6, hO6, hT6, rfl⟩ := q136
          have n6 : ∀ {k i : Nat}, k ≠ 22 → k ≠ 23 → ¬ cvK mi k i := fun h2 h3 q => by
            rcases q.1 with q | q
            · exact h2 q
            · exact h3 q
          have hF56 : Fr (fun k i => ptK mi (40 * mi + f P.length) k i ∨ cvK mi k i) M_ M6 := (hF5.mono fun _ _ q => Or.inl q).tr (hF6.mono fun _ _ q => Or.inr q)
          have n56 : ∀ {k i : Nat}, k ≠ 2 → k ≠ 3 → k ≠ 22 → k ≠ 23 → ¬ (ptK mi (40 * mi + f P.length) k i ∨ cvK mi k i) := fun h2 h3 h22 h23 q => by
            rcases q with q | q
            · exact n2 h2 h3 q
            · exact n6 h22 h23 q
          refine w_aload_n C dX1_put_139 rfl ?_
          refine w_aload_n C dX1_put_140 rfl ?_
          refine g_X1_92 C dX1_put_141 (by first | assumption | exact Nat.zero_lt_one | exact Nat.zero_lt_two | exact Nat.one_lt_two) ?_
          rw [(hF56 4 j (n56 (by decide) (by decide) (by decide) (by decide))).1, s4]
          refine w_aload_n C dX1_put_144 rfl ?_
          refine w_iload C dX1_put_145 rfl ?_
          refine w_aload C dX1_put_147 rfl ?_
          refine g_X1_95 C dX1_put_149 (by first | assumption | exact Nat.zero_lt_one | exact Nat.zero_lt_two | exact Nat.one_lt_two) ?_
          rw [(hF56 5 _ (n56 (by decide) (by decide) (by decide) (by decide))).1, o6]
          refine w_iadd C dX1_put_152 ?_
          refine w_callV C dX1_put_153 (c_X0_remainder hl hG (RepCt.fr hF56 (n56 (by decide) (by decide) (by decide) (by decide)) (n56 (by decide) (by decide) (by decide) (by decide)) hCl.1) ((row : Int) + mkR S j t w) (by omega)) mX0_remainder vX0_remainder lk_X1_100 (by first | assumption | exact Nat.zero_lt_one | exact Nat.zero_lt_two | exact Nat.one_lt_two) rfl rfl rfl rfl ⟨by decide, by decide, by decide, by decide⟩ (Nat.le_of_ble_eq_true rfl) (fun _ _ h => h.elim) ⟨by decide, by decide⟩ (fun r_ M_ q153 => ?_)
          obtain ⟨rfl, rfl⟩ := q153
          have e24 : ∀ k, k < 4 → -2147483648 ≤ M_.1 24 mi k ∧ M_.1 24 mi k ≤ 1000 := fun k hk => by
            rw [(hF56 24 mi (n56 (by decide) (by decide) (by decide) (by decide))).1, a6 k hk]
            have : inGr S P (k + 1) ≤ P.length := List.countP_le_length
            omega
          have n63 : ∀ i, ¬ cvK mi 3 i := fun i => n6 (by decide) (by decide)
          have n62 : ∀ i, ¬ cvK mi 2 i := fun i => n6 (by decide) (by decide)
          have hpc : RepPc (nx, j, t, row, col, w) (40 * mi + f P.length) M_ := RepPc.fr hF6 (n63 _) ⟨e0, e1, e2, e3, e4, e5, e6⟩
          refine w_callV C dX1_put_156 (c_X1_join hl hmi (gpS S j) (by omega) _ (by omega) e24) mX1_join vX1_join lk_X1_156 (by first | assumption | exact Nat.zero_lt_one | exact Nat.zero_lt_two | exact Nat.one_lt_two) rfl rfl rfl rfl ⟨by decide, by decide, by decide, by decide⟩ (Nat.le_of_ble_eq_true rfl) (fun _ _ h => h.elim) ⟨by decide, by decide⟩ (fun r_ M7 q156 => ?_)
          obtain ⟨q156, rfl⟩ := q156
          obtain ⟨g1, g2⟩ := RepMF_put hG hmi2 hP hM hI' hfree hF56 hpc (by rw [(hF6 2 mi (n62 _)).1]; exact e7) (by rw [(hF6 2 mi (n62 _)).1]; exact e8) (fun k hk => by rw [hO6 k hk, (hF5 22 mi (n2 (by decide) (by decide))).1]) hT6 q156
          have hnum := (g2.2.2.1.2.2 P.length (nx, j, t, row, col, w) (by simp)).1
          refine w_aload C dX1_put_159 rfl ?_
          refine g_X1_48 C dX1_put_161 (by first | assumption | exact Nat.zero_lt_one | exact Nat.zero_lt_two | exact Nat.one_lt_two) ?_
          rw [hnum]
          refine w_iret C hr dX1_put_164 rfl (⟨g1, ⟨f, g2⟩, rfl⟩) (by decide) (by decide)
        · cases h50
theorem c_X1_putAtSpot (hl : l.stackTraces = false) {S : Sg} {P : List Pc} {nx mi j : Nat} (hG : GInv S) (hmi : inD (cnt ns nt) 2 mi) (hP : P.length < 40) (hCl : RepCl S M) (hSh : RepSh S M) (hM : RepMk mi S P nx M) (hI : PInv S P nx) (hns : nsS S ≤ ns) (hj : j < nsS S) (w : Nat) (hw : w ≤ 1) (z : Nat) (hz : z < 2880) (hfree : free S P j w z) (hnx : nx < 1000000) : Con l b0 yX1_putAtSpot cX1_putAtSpot 6 (some .int) 4 0 0 [aO 2 mi, aO 1 0, aO 4 j, aI z, aI w] ad (cnt ns nt) M (fun r9 M' => Fr (mkK mi) M M' ∧ RepMk mi S (P ++ [(nx, j, z % 4, z / 4 / 12, z / 4 % 12, w)]) (nx + 1) M' ∧ r9 = some (aI nx)) noX := by
  have hj4 : inD (cnt ns nt) 4 j := by
    show j < ns
    omega
  refine Con.of hl pl_X1 (Nat.le_of_ble_eq_true rfl) ?_
  intro D cA p e s m args below meth c C hr
  refine w_iload_n C dX1_putAtSpot_0 rfl ?_
  refine w_iconst C dX1_putAtSpot_1 ?_
  refine w_idiv C dX1_putAtSpot_2 (by omega) (by omega) ?_
  refine w_istore C dX1_putAtSpot_3 (by decide) ?_
  refine w_aload_n C dX1_putAtSpot_5 rfl ?_
  refine w_aload_n C dX1_putAtSpot_6 rfl ?_
  refine w_aload_n C dX1_putAtSpot_7 rfl ?_
  refine w_iload_n C dX1_putAtSpot_8 rfl ?_
  refine w_iconst C dX1_putAtSpot_9 ?_
  refine w_irem C dX1_putAtSpot_10 (by omega) (by omega) ?_
  refine w_iload C dX1_putAtSpot_11 rfl ?_
  refine w_bipush (v := 12) C dX1_putAtSpot_13 rfl ?_
  refine w_idiv C dX1_putAtSpot_15 (by omega) (by omega) ?_
  refine w_iload C dX1_putAtSpot_16 rfl ?_
  refine w_bipush (v := 12) C dX1_putAtSpot_18 rfl ?_
  refine w_irem C dX1_putAtSpot_20 (by omega) (by omega) ?_
  refine w_iload C dX1_putAtSpot_21 rfl ?_
  refine w_callV C dX1_putAtSpot_23 (c_X1_put hl hG hmi hP hCl hSh hM hI hns hj (z % 4) w (by omega) hw (z / 4 / 12) (z / 4 % 12) hfree hnx) mX1_put vX1_put lk_X1_125 (by first | assumption | exact Nat.zero_lt_one | exact Nat.zero_lt_two | exact Nat.one_lt_two) rfl rfl rfl rfl ⟨by decide, by decide, by decide, by decide⟩ (Nat.le_of_ble_eq_true rfl) (fun _ _ h => h.elim) ⟨by decide, by decide⟩ (fun r_ M_ q23 => ?_)
  obtain ⟨k1, k2, rfl⟩ := q23
  refine w_iret C hr dX1_putAtSpot_26 rfl (⟨k1, k2, rfl⟩) (by decide) (by decide)
theorem lenF_le (f : Nat → Bool) (n : Nat) : lenF f n ≤ n := by
  induction n with
  | zero => exact Nat.le_refl _
  | succ n ih =>
    unfold lenF
    split <;> omega
theorem bits_any {S : Sg} {P : List Pc} {u : Nat} : (bitsN (fun c => decide (clo S P (12 * u + c) ≠ -1)) 12 = 0) ↔ anyRow S P u = false := by
  rw [bitsN_0]
  unfold anyRow
  rw [List.any_eq_false]
  simp only [List.mem_range]
  constructor
  · intro h x hx
    rw [h x hx]
    decide
  · intro h x hx
    exact Bool.eq_false_iff.mpr (h x hx)
theorem c_X1_rowsUsed (hl : l.stackTraces = false) {S : Sg} {P : List Pc} {nx mi : Nat} {f : Nat → Nat} (hmi : inD (cnt ns nt) 2 mi) (hM : RepMF f mi S P nx M) : Con l b0 yX1_rowsUsed cX1_rowsUsed 2 (some .int) 2 0 0 [aO 2 mi] ad (cnt ns nt) M (fun r9 M' => M' = M ∧ r9 = some (aI (lenR S P : Nat))) noX := by
  have i23 : inD (cnt ns nt) 23 mi := hmi
  obtain ⟨a1, a2, a3, a4, a5, a6, a7⟩ := hM
  refine Con.of hl pl_X1 (Nat.le_of_ble_eq_true rfl) ?_
  intro D cA p e s m args below meth c C hr
  have loop : ∀ n : Nat, n ≤ 60 → lenF (anyRow S P) n = lenR S P → Wm p l e (rmd 2 0 0) s m args below meth c 2 D cA b0 0 0 (vx_MQ below (mQ D cA b0 ad (cnt ns nt) (fun r9 M' => M' = M ∧ r9 = some (aI (lenR S P : Nat)))) (mX D cA b0 ad (cnt ns nt) noX) args s 0 0 b0) 3 [(0, aO 2 mi), (1, aI n)] [] ad (cnt ns nt) M := by
    intro n
    induction n with
    | zero =>
      intro hn he
      refine w_iload_n C dX1_rowsUsed_3 rfl ?_
      refine w_if_le C dX1_rowsUsed_4 (by omega) (fun h4 => ?_) (fun h4 => ?_)
      · refine w_iload_n C dX1_rowsUsed_26 rfl ?_
        refine w_iret C hr dX1_rowsUsed_27 rfl (⟨rfl, by rw [← he]; rfl⟩) (by decide) (by decide)
      · omega
    | succ n ih =>
      intro hn he
      refine w_iload_n C dX1_rowsUsed_3 rfl ?_
      refine w_if_le C dX1_rowsUsed_4 (by omega) (fun h4 => ?_) (fun h4 => ?_)
      · omega
      · have hlt : bitsN (fun c => decide (clo S P (12 * n + c) ≠ -1)) 12 < 4096 := bits12
        refine w_aload_n C dX1_rowsUsed_7 rfl ?_
        refine g_X1_28 C dX1_rowsUsed_8 (by first | assumption | exact Nat.zero_lt_one | exact Nat.zero_lt_two | exact Nat.one_lt_two) ?_
        refine w_iload_n C dX1_rowsUsed_11 rfl ?_
        refine w_iconst C dX1_rowsUsed_12 ?_
        refine w_isub C dX1_rowsUsed_13 ?_
        refine w_callN C dX1_rowsUsed_14 (c_X6_entry hl IA_23 i23 (((n + 1 : Nat) : Int) - 1) (by omega)) mX6_entry sX6_entry lk_X1_110 rfl rfl ⟨by decide, by decide, by decide, by decide⟩ (Nat.le_of_ble_eq_true rfl) (fun _ _ h => h.elim) ⟨by decide, by decide⟩ (fun r_ M_ q14 => ?_)
        obtain ⟨rfl, rfl⟩ := q14
        rw [show ((n + 1 : Nat) : Int) - 1 = (n : Int) by omega, rd_ok (by omega), a5 n (by omega)]
        unfold lenF at he
        have hb := bits_any (S := S) (P := P) (u := n)
        refine w_if_ne C dX1_rowsUsed_17 (by omega) (fun h17 => ?_) (fun h17 => ?_)
        · have h9 : anyRow S P n = true := by
            cases hx : anyRow S P n with
            | true => rfl
            | false => exact absurd (congrArg (fun z : Nat => (z : Int)) (hb.mpr hx)) h17
          rw [if_pos h9] at he
          refine w_iload_n C dX1_rowsUsed_26 rfl ?_
          refine w_iret C hr dX1_rowsUsed_27 rfl (⟨rfl, by rw [← he]⟩) (by decide) (by decide)
        · have h9 : ¬ anyRow S P n = true := by
            rw [hb.mp (by omega)]
            decide
          rw [if_neg h9] at he
          refine w_iinc C dX1_rowsUsed_20 rfl (by decide) ?_
          refine w_goto C dX1_rowsUsed_23 ?_
          exact Wm.lsub (lv' := [(0, aO 2 mi), (1, aI (n : Int))]) ⟨rfl, congrArg some (congrArg aI (by omega)), trivial⟩ (ih (by omega) he)
  refine w_bipush (v := 60) C dX1_rowsUsed_0 rfl ?_
  refine w_istore_n C dX1_rowsUsed_2 (by decide) ?_
  exact Wm.lsub (lv' := [(0, aO 2 mi), (1, aI ((60 : Nat) : Int))]) ⟨rfl, rfl, trivial⟩ (loop 60 (by omega) rfl)
end Mk
