/-! Marker: what hinders a piece, and the first free spot -/
theorem ov_iff {f g : Nat → Bool} {col : Nat} : bitsN g 12 &&& bitsN f 5 * 2 ^ col = 0 ↔ ∀ c, c < 5 → f c = true → col + c < 12 → g (col + c) = false := by
  constructor
  · intro h c h5 hf h12
    have h9 := congrArg (fun z : Nat => z.testBit (col + c)) h
    simp only [Nat.testBit_and, bitsN_tb, Nat.testBit_mul_two_pow, Nat.zero_testBit] at h9
    rw [decide_eq_true h12, show col + c - col = c by omega, decide_eq_true h5, hf, decide_eq_true (Nat.le_add_right col c)] at h9
    simpa using h9
  · intro h
    refine Nat.eq_of_testBit_eq fun i => ?_
    rw [Nat.testBit_and, bitsN_tb, Nat.testBit_mul_two_pow, bitsN_tb, Nat.zero_testBit]
    by_cases h1 : col ≤ i
    · by_cases h2 : i < 12
      · by_cases h3 : i - col < 5
        · cases hf : f (i - col) with
          | false => simp
          | true =>
            have := h (i - col) h3 hf (by omega)
            rw [show col + (i - col) = i by omega] at this
            rw [this]
            simp
        · rw [decide_eq_false h3]
          simp
      · rw [decide_eq_false h2]
        simp
    · rw [decide_eq_false h1]
      simp
theorem hgt_bd (d : Nat → Bool) (t mi : Nat) : -10 ≤ hgt d t mi ∧ hgt d t mi ≤ 5 ∧ -10 ≤ wid d t mi ∧ wid d t mi ≤ 5 := by
  have a1 := end5_le (rowB d t mi)
  have a2 := end5_le (colB d t mi)
  have a3 := lst5_le (rowB d t mi)
  have a4 := lst5_le (colB d t mi)
  unfold hgt wid topS leftS
  omega
theorem cols12 {S : Sg} (hG : GInv S) : colsS S ≤ 12 := by
  have := hG.1
  unfold colsS
  split <;> omega
theorem mkR_bd (S : Sg) (hG : GInv S) (j t mi : Nat) : -5 ≤ mkR S j t mi ∧ mkR S j t mi ≤ 4 := by
  have h := hG.2.2.2.2.2.2.2.2.2.1 j
  have h1 : tR t mi (5 * mrS S j + mcS S j) ≤ 4 := tR_le (by omega)
  have h2 := lst5_le (rowB (dB S j) t mi)
  unfold mkR topS
  omega
def free (S : Sg) (P : List Pc) (j m s : Nat) : Prop := reasonS S P j (s % 4) m ((s / 4 / 12 : Nat) : Int) ((s / 4 % 12 : Nat) : Int) = 45
def FSp (S : Sg) (P : List Pc) (j m : Nat) (z : Int) : Prop := (z = -1 ∧ ∀ s, s < 2880 → ¬ free S P j m s) ∨ ∃ s : Nat, s < 2880 ∧ z = s ∧ free S P j m s ∧ ∀ s', s' < s → ¬ free S P j m s'
theorem FSp.uniq {S : Sg} {P : List Pc} {j m : Nat} {z z' : Int} (h : FSp S P j m z) (h' : FSp S P j m z') : z = z' := by
  rcases h with ⟨a1, a2⟩ | ⟨s, a1, a2, a3, a4⟩
  · rcases h' with ⟨b1, b2'⟩ | ⟨s', b1, b2', b3, b4⟩
    · omega
    · exact absurd b3 (a2 s' b1)
  · rcases h' with ⟨b1, b2'⟩ | ⟨s', b1, b2', b3, b4⟩
    · exact absurd a3 (b2' s a1)
    · rcases Nat.lt_trichotomy s s' with q | q | q
      · exact absurd a3 (b4 s q)
      · omega
      · exact absurd b3 (a4 s' q)
/-- a spot beyond the open columns is never free -/
theorem free_col {S : Sg} {P : List Pc} {j m t row col : Nat} (hd : 0 < szS S j → ∃ k, k < 25 ∧ dB S j k = true) (h : reasonS S P j t m row col = 45) : col < colsS S := by
  unfold reasonS at h
  by_cases h1 : szS S j = 0
  · rw [if_pos h1] at h; omega
  · rw [if_neg h1] at h
    obtain ⟨k, hk, e⟩ := hd (by omega)
    obtain ⟨r, c, e1, e2⟩ := wid_cell (t := t) (mi := m) ⟨k, hk, e⟩
    by_cases h2 : mayT S j t
    · rw [if_neg (fun q => q h2)] at h
      by_cases h3 : m = 1 ∧ (paS S j = 0 ∨ fdS S = 1)
      · rw [if_pos h3] at h; omega
      · rw [if_neg h3] at h
        by_cases h4 : offS S j t m row col
        · rw [if_pos h4] at h; omega
        · have h5 := Decidable.not_not.mp h4
          omega
    · rw [if_pos h2] at h; omega
theorem strp_iff {S : Sg} {P : List Pc} {j t mi : Nat} {row : Int} : strp S P j t mi row = true ↔ gpS S j ≠ 0 ∧ ∃ p ∈ P, gpS S (pShp p) = gpS S j ∧ remP S p ≠ remS S (row + mkR S j t mi) := by
  unfold strp
  simp only [Bool.and_eq_true, decide_eq_true_iff, List.any_eq_true, beq_iff_eq, Bool.not_eq_true', beq_eq_false_iff_ne]
  constructor
  · rintro ⟨⟨h1, h2⟩, p, hp, h3, h4⟩
    exact ⟨h1, p, hp, h3, h4⟩
  · rintro ⟨h1, p, hp, h3, h4⟩
    refine ⟨⟨h1, ?_⟩, p, hp, h3, h4⟩
    refine Decidable.byContradiction fun h9 => h4 ?_
    unfold remP remS
    rw [if_neg h9, if_neg h9]
section Mk
variable {l : Launch} {b0 : Nat → Prop} {ad : Ads} {ns nt : Nat} {M : Mem}
theorem c_X1_meetsAny (hl : l.stackTraces = false) {k i o t mi row col : Nat} {d : Nat → Bool} {g : Nat → Nat → Bool} (hk : IA k 60) (hin : inD (cnt ns nt) k i) (hg : ∀ r, r < 60 → M.1 k i r = (bitsN (g r) 12 : Nat)) (o1 : inD (cnt ns nt) 5 o) (o2 : inD (cnt ns nt) 31 o) (o3 : ∀ r, r < 5 → M.1 31 o r = (bitsN (nc d t mi r) 5 : Nat)) (o4 : M.1 5 o 3 = hgt d t mi) (h1 : (row : Int) + hgt d t mi ≤ 60) (h2 : (col : Int) + wid d t mi ≤ 12) (h3 : row ≤ 65) (h4 : col ≤ 12) : Con l b0 yX1_meetsAny cX1_meetsAny 5 (some .boolean) 2 0 0 [aO k i, aO 5 o, aI row, aI col] ad (cnt ns nt) M (fun r9 M' => M' = M ∧ r9 = some (aI (b2 (anyC d t mi (fun r c => g (row + r) (col + c)) = true)))) noX := by
  have hb := hgt_bd d t mi
  refine Con.of hl pl_X1 (Nat.le_of_ble_eq_true rfl) ?_
  intro D cA p e s m args below meth c C hr
  have loop : ∀ (b n : Nat), n + b = 5 → (∀ r c, r < n → nc d t mi r c = true → g (row + r) (col + c) = false) → Wm p l e (rmd 2 0 0) s m args below meth c 5 D cA b0 0 0 (vx_MQ below (mQ D cA b0 ad (cnt ns nt) (fun r9 M' => M' = M ∧ r9 = some (aI (b2 (anyC d t mi (fun r c => g (row + r) (col + c)) = true))))) (mX D cA b0 ad (cnt ns nt) noX) args s 0 0 b0) 3 [(0, aO k i), (1, aO 5 o), (2, aI row), (3, aI col), (4, aI n)] [] ad (cnt ns nt) M := by
    intro b
    induction b with
    | zero =>
      intro n hn hno
      refine w_iload C dX1_meetsAny_3 rfl ?_
      refine w_aload_n C dX1_meetsAny_5 rfl ?_
      refine g_X1_107 C dX1_meetsAny_6 (by first | assumption | exact Nat.zero_lt_one | exact Nat.zero_lt_two | exact Nat.one_lt_two) ?_
      rw [o4]
      refine w_icmp_ge C dX1_meetsAny_9 (by omega) (by omega) (fun h9 => ?_) (fun h9 => ?_)
      · refine w_iconst C dX1_meetsAny_43 ?_
        refine w_iret C hr dX1_meetsAny_44 (by first | exact narrow_z (b2_01 _) | exact narrow_z (by omega)) (⟨rfl, ?_⟩) (by decide) (by decide)
        rw [b2_f]
        intro h
        obtain ⟨r, c, e1, e2⟩ := anyC_iff.mp h
        have e3 := nc_lt e1
        rw [hno r c (by omega) e1] at e2
        cases e2
      · omega
    | succ b ih =>
      intro n hn hno
      refine w_iload C dX1_meetsAny_3 rfl ?_
      refine w_aload_n C dX1_meetsAny_5 rfl ?_
      refine g_X1_107 C dX1_meetsAny_6 (by first | assumption | exact Nat.zero_lt_one | exact Nat.zero_lt_two | exact Nat.one_lt_two) ?_
      rw [o4]
      refine w_icmp_ge C dX1_meetsAny_9 (by omega) (by omega) (fun h9 => ?_) (fun h9 => ?_)
      · refine w_iconst C dX1_meetsAny_43 ?_
        refine w_iret C hr dX1_meetsAny_44 (by first | exact narrow_z (b2_01 _) | exact narrow_z (by omega)) (⟨rfl, ?_⟩) (by decide) (by decide)
        rw [b2_f]
        intro h
        obtain ⟨r, c, e1, e2⟩ := anyC_iff.mp h
        have e3 := nc_lt e1
        rw [hno r c (by omega) e1] at e2
        cases e2
      · refine w_aload_n C dX1_meetsAny_12 rfl ?_
        refine w_iload_n C dX1_meetsAny_13 rfl ?_
        refine w_iload C dX1_meetsAny_14 rfl ?_
        refine w_iadd C dX1_meetsAny_16 ?_
        refine w_callN C dX1_meetsAny_17 (c_X6_entry hl hk hin ((row : Int) + n) (by omega)) mX6_entry sX6_entry lk_X1_110 rfl rfl ⟨by decide, by decide, by decide, by decide⟩ (Nat.le_of_ble_eq_true rfl) (fun _ _ h => h.elim) ⟨by decide, by decide⟩ (fun r_ M_ q17 => ?_)
        obtain ⟨rfl, rfl⟩ := q17
        rw [show (row : Int) + n = ((row + n : Nat) : Int) by omega, rd_ok (by omega), hg _ (by omega)]
        refine w_aload_n C dX1_meetsAny_20 rfl ?_
        refine g_X1_114 C dX1_meetsAny_21 (by first | assumption | exact Nat.zero_lt_one | exact Nat.zero_lt_two | exact Nat.one_lt_two) ?_
        refine w_iload C dX1_meetsAny_24 rfl ?_
        refine w_callN C dX1_meetsAny_26 (c_X6_entry hl IA_31 o2 n (by omega)) mX6_entry sX6_entry lk_X1_110 rfl rfl ⟨by decide, by decide, by decide, by decide⟩ (Nat.le_of_ble_eq_true rfl) (fun _ _ h => h.elim) ⟨by decide, by decide⟩ (fun r_ M_ q26 => ?_)
        obtain ⟨rfl, rfl⟩ := q26
        rw [rd_ok (by omega), o3 n (by omega)]
        have p1 : 2 ^ col ≤ 2 ^ 12 := Nat.pow_le_pow_right (by decide) h4
        have p2 : bitsN (nc d t mi n) 5 < 2 ^ 5 := bitsN_lt _ _
        have p3 : bitsN (nc d t mi n) 5 * 2 ^ col ≤ 2 ^ 5 * 2 ^ 12 := Nat.mul_le_mul (Nat.le_of_lt p2) p1
        have p4 : bitsN (g (row + n)) 12 < 2 ^ 12 := bitsN_lt _ _
        have p5 : bitsN (g (row + n)) 12 &&& bitsN (nc d t mi n) 5 * 2 ^ col < 2 ^ 18 := Nat.and_lt_two_pow _ (Nat.lt_of_le_of_lt p3 (by decide))
        refine w_iload_n C dX1_meetsAny_29 rfl ?_
        refine w_ishl (x := bitsN (nc d t mi n) 5) C dX1_meetsAny_30 (by omega) ?_
        refine w_iand C dX1_meetsAny_31 (by omega) (by omega) ?_
        refine w_if_eq C dX1_meetsAny_32 (by omega) (fun h32 => ?_) (fun h32 => ?_)
        · have h32' := ov_iff.mp (by omega : bitsN (g (row + n)) 12 &&& bitsN (nc d t mi n) 5 * 2 ^ col = 0)
          refine w_iinc C dX1_meetsAny_37 rfl (by decide) ?_
          refine w_goto C dX1_meetsAny_40 ?_
          refine Wm.lsub (lv' := [(0, aO k i), (1, aO 5 o), (2, aI row), (3, aI col), (4, aI ((n + 1 : Nat) : Int))]) ⟨rfl, rfl, rfl, rfl, rfl, trivial⟩ (ih (n + 1) (by omega) fun r c hr hc => ?_)
          by_cases hrn : r = n
          · subst hrn
            have e3 := nc_lt hc
            exact h32' c e3.2.1 hc (by omega)
          · exact hno r c (by omega) hc
        · refine w_iconst C dX1_meetsAny_35 ?_
          refine w_iret C hr dX1_meetsAny_36 (by first | exact narrow_z (b2_01 _) | exact narrow_z (by omega)) (⟨rfl, ?_⟩) (by decide) (by decide)
          rw [b2_t]
          refine Decidable.byContradiction fun h9 => h32 ?_
          have e9 : bitsN (g (row + n)) 12 &&& bitsN (nc d t mi n) 5 * 2 ^ col = 0 := ov_iff.mpr fun c hc hn' h12 => by
            cases hq : g (row + n) (col + c) with
            | false => rfl
            | true => exact absurd (anyC_iff.mpr ⟨n, c, hn', hq⟩) h9
          omega
  refine w_iconst C dX1_meetsAny_0 ?_
  refine w_istore C dX1_meetsAny_1 (by decide) ?_
  exact Wm.lsub (lv' := [(0, aO k i), (1, aO 5 o), (2, aI row), (3, aI col), (4, aI ((0 : Nat) : Int))]) ⟨rfl, rfl, rfl, rfl, rfl, trivial⟩ (loop 5 0 rfl (fun r c h => absurd h (Nat.not_lt_zero r)))
theorem c_X1_stripesMeet (hl : l.stackTraces = false) {S : Sg} {P : List Pc} {nx mi j : Nat} {f : Nat → Nat} (hG : GInv S) (hmi : inD (cnt ns nt) 2 mi) (hP : P.length ≤ 40) (hM : RepMF f mi S P nx M) (z : Int) (hz : -2147483648 ≤ z ∧ z ≤ 2147483647) : Con l b0 yX1_stripesMeet cX1_stripesMeet 3 (some .boolean) 2 0 0 [aO 2 mi, aI ((gpS S j : Int) - 1), aI z] ad (cnt ns nt) M (fun r9 M' => M' = M ∧ r9 = some (aI (b2 (¬ (gpS S j ≠ 0 ∧ ∃ p ∈ P, gpS S (pShp p) = gpS S j ∧ remP S p ≠ z))))) noX := by
  obtain ⟨a1, a2, a3, a4, a5, a6, a7⟩ := hM
  have hg4 := (hG.2.2.2.2.2.2.2.2.2.1 j).2.1
  have hmi2 : inD (cnt ns nt) 24 mi := hmi
  have hmi3 : inD (cnt ns nt) 25 mi := hmi
  refine Con.of hl pl_X1 (Nat.le_of_ble_eq_true rfl) ?_
  intro D cA p e s m args below meth c C hr
  refine w_aload_n C dX1_stripesMeet_0 rfl ?_
  refine g_X1_31 C dX1_stripesMeet_1 (by first | assumption | exact Nat.zero_lt_one | exact Nat.zero_lt_two | exact Nat.one_lt_two) ?_
  refine w_iload_n C dX1_stripesMeet_4 rfl ?_
  refine w_callN C dX1_stripesMeet_5 (c_X6_entry hl IA_24 hmi2 ((gpS S j : Int) - 1) (by omega)) mX6_entry sX6_entry lk_X1_110 rfl rfl ⟨by decide, by decide, by decide, by decide⟩ (Nat.le_of_ble_eq_true rfl) (fun _ _ h => h.elim) ⟨by decide, by decide⟩ (fun r_ M_ q5 => ?_)
  obtain ⟨rfl, rfl⟩ := q5
  by_cases hg : gpS S j = 0
  · have e9 : rd M_ 24 mi 4 ((gpS S j : Int) - 1) = 0 := by
      unfold rd
      rw [if_neg (by omega)]
    rw [e9]
    refine w_if_eq C dX1_stripesMeet_8 (by omega) (fun h8 => ?_) (fun h8 => ?_)
    · refine w_iconst C dX1_stripesMeet_23 ?_
      refine w_goto C dX1_stripesMeet_24 ?_
      refine w_iret C hr dX1_stripesMeet_28 (by first | exact narrow_z (b2_01 _) | exact narrow_z (by omega)) (⟨rfl, ?_⟩) (by decide) (by decide)
      rw [b2_t]
      exact fun q => q.1 hg
    · omega
  · have e8 : (gpS S j : Int) - 1 = ((gpS S j - 1 : Nat) : Int) := by omega
    rw [e8, rd_ok (by omega), a6 _ (by omega), show gpS S j - 1 + 1 = gpS S j by omega]
    have hcp : inGr S P (gpS S j) ≤ P.length := List.countP_le_length
    refine w_if_eq C dX1_stripesMeet_8 (by omega) (fun h8 => ?_) (fun h8 => ?_)
    · refine w_iconst C dX1_stripesMeet_23 ?_
      refine w_goto C dX1_stripesMeet_24 ?_
      refine w_iret C hr dX1_stripesMeet_28 (by first | exact narrow_z (b2_01 _) | exact narrow_z (by omega)) (⟨rfl, ?_⟩) (by decide) (by decide)
      rw [b2_t]
      rintro ⟨-, p, hp, h1, h2⟩
      have : 0 < inGr S P (gpS S j) := List.countP_pos_iff.mpr ⟨p, hp, by rw [beq_iff_eq]; exact h1⟩
      omega
    · obtain ⟨p, hp, e⟩ := List.countP_pos_iff.mp (show 0 < inGr S P (gpS S j) by omega)
      rw [beq_iff_eq] at e
      have e7 := a7 p hp (by rw [e]; exact hg)
      rw [e] at e7
      have hr9 : -2147483648 ≤ remP S p ∧ remP S p ≤ 2147483647 := by
        unfold remP remS
        have h6 := hG.2.2.2.1
        split
        · have := Int.emod_nonneg ((pRow p : Int) + mkR S (pShp p) (pTrn p) (pMir p)) (b := (srS S : Int)) (by omega)
          have := Int.emod_lt_of_pos ((pRow p : Int) + mkR S (pShp p) (pTrn p) (pMir p)) (b := (srS S : Int)) (by omega)
          omega
        · omega
      refine w_aload_n C dX1_stripesMeet_11 rfl ?_
      refine g_X1_34 C dX1_stripesMeet_12 (by first | assumption | exact Nat.zero_lt_one | exact Nat.zero_lt_two | exact Nat.one_lt_two) ?_
      refine w_iload_n C dX1_stripesMeet_15 rfl ?_
      refine w_callN C dX1_stripesMeet_16 (c_X6_entry hl IA_25 hmi3 ((gpS S j - 1 : Nat) : Int) (by omega)) mX6_entry sX6_entry lk_X1_110 rfl rfl ⟨by decide, by decide, by decide, by decide⟩ (Nat.le_of_ble_eq_true rfl) (fun _ _ h => h.elim) ⟨by decide, by decide⟩ (fun r_ M_ q16 => ?_)
      obtain ⟨rfl, rfl⟩ := q16
      rw [rd_ok (by omega), e7]
      refine w_iload_n C dX1_stripesMeet_19 rfl ?_
      refine w_icmp_ne C dX1_stripesMeet_20 (by omega) (by omega) (fun h20 => ?_) (fun h20 => ?_)
      · refine w_iconst C dX1_stripesMeet_27 ?_
        refine w_iret C hr dX1_stripesMeet_28 (by first | exact narrow_z (b2_01 _) | exact narrow_z (by omega)) (⟨rfl, ?_⟩) (by decide) (by decide)
        rw [b2_f]
        exact fun q => q ⟨hg, p, hp, e, h20⟩
      · refine w_iconst C dX1_stripesMeet_23 ?_
        refine w_goto C dX1_stripesMeet_24 ?_
        refine w_iret C hr dX1_stripesMeet_28 (by first | exact narrow_z (b2_01 _) | exact narrow_z (by omega)) (⟨rfl, ?_⟩) (by decide) (by decide)
        rw [b2_t]
        rintro ⟨-, p', hp', h1, h2⟩
        have e7' := a7 p' hp' (by rw [h1]; exact hg)
        rw [h1, e7] at e7'
        omega
end Mk
