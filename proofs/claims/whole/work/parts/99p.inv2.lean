/-! what the law's loop keeps, on -/
theorem InvZ.cg3 {S S' : Sg} (h : InvZ S) (hn : nsS S ≤ nsS S') (ht : ntS S ≤ ntS S') (e : ∀ f i q, 7 ≤ f → f ≤ 14 → nsS S' ≤ i → S' f i q = S f i q) (e16 : ∀ y j, (ntS S' ≤ y ∨ nsS S' ≤ j) → S' 16 y j = S 16 y j) (e17 : ∀ y, ntS S' ≤ y → S' 17 y 0 = S 17 y 0) : InvZ S' := by
  obtain ⟨h1, h2⟩ := h
  refine ⟨fun j hj => ?_, fun y hy => ?_⟩
  · obtain ⟨z1, z2, z3, z4, z5, z6, z7, z8, z9, z10⟩ := h1 j (by omega)
    exact ⟨(e 7 j 0 (by omega) (by omega) hj).trans z1, (e 8 j 0 (by omega) (by omega) hj).trans z2, fun k => (e 9 j k (by omega) (by omega) hj).trans (z3 k), (e 10 j 0 (by omega) (by omega) hj).trans z4, (e 11 j 0 (by omega) (by omega) hj).trans z5, (e 12 j 0 (by omega) (by omega) hj).trans z6, (e 13 j 0 (by omega) (by omega) hj).trans z7, (e 14 j 0 (by omega) (by omega) hj).trans z8, (e 14 j 1 (by omega) (by omega) hj).trans z9, fun y => (e16 y j (Or.inr hj)).trans (z10 y)⟩
  · obtain ⟨z1, z2⟩ := h2 y (by omega)
    exact ⟨(e17 y hy).trans z1, fun j => (e16 y j (Or.inl hy)).trans (z2 j)⟩
theorem li_clearFlaws {S : Sg} {P : List Pc} {nx n : Nat} (h : LI S P nx n) : LIR (oClearFlaws S P nx) (n + 1) :=
  h.st (inv_clearFlaws h.1) (Nat.le_succ _) (fun f i q h3 h4 => by
    show noFl S f i q = S f i q
    unfold noFl
    first | exact if_neg (by omega) | (rw [up3_ne _ _ (by omega)]) | (split <;> first | rfl | (exfalso; omega)))
theorem li_addStyle {S : Sg} {P : List Pc} {nx n : Nat} (h : LI S P nx n) : LIR (oAddStyle S P nx) (n + 1) := by
  have hi := inv_addStyle h.1
  unfold oAddStyle at hi ⊢
  by_cases h1 : 4 ≤ ntS S
  · rw [if_pos h1]
    exact h.up
  · rw [if_neg h1] at hi ⊢
    obtain ⟨g1, g2, g3, g4, g5⟩ := h
    exact ⟨hi, g2.cg3 (Nat.le_refl _) (show ntS S ≤ ntS S + 1 from Nat.le_succ _) (fun f i q a b _ => up3_ne _ _ (by omega)) (fun y j _ => rfl) (fun y _ => rfl), g3.cg (fun f i q a => up3_ne _ _ (by omega)), (show nx ≤ n + 1 by omega), fun y => Nat.le_trans (g5 y) (by omega)⟩
theorem li_addShape {S : Sg} {P : List Pc} {nx n : Nat} (h : LI S P nx n) (a : Int) (b : Nat) (hb : b ≤ 1) : LIR (oAddShape a b S P nx) (n + 1) := by
  have hi := inv_addShape h.1 a b hb
  unfold oAddShape at hi ⊢
  by_cases h1 : a = 110 ∨ a = 104 ∨ a = 113
  · rw [if_neg (fun q => q h1)] at hi ⊢
    by_cases h2 : 8 ≤ nsS S
    · rw [if_pos h2]
      exact h.up
    · rw [if_neg h2] at hi ⊢
      obtain ⟨g1, g2, g3, g4, g5⟩ := h
      have e : ∀ f i q, ¬ (f = 6 ∨ (f = 7 ∨ f = 8) ∧ i = nsS S) → up3 (up3 (up3 S 7 (nsS S) 0 a.toNat) 8 (nsS S) 0 b) 6 0 0 (nsS S + 1) f i q = S f i q := fun f i q h => by
        rw [up3_ne _ _ (by omega), up3_ne _ _ (by omega), up3_ne _ _ (by omega)]
      exact ⟨hi, g2.cg3 (show nsS S ≤ nsS S + 1 from Nat.le_succ _) (Nat.le_refl _) (fun f i q u v (w : nsS S + 1 ≤ i) => e f i q (by omega)) (fun y j _ => e 16 y j (by omega)) (fun y _ => e 17 y 0 (by omega)), g3.cg (fun f i q u => e f i q (by omega)), (show nx ≤ n + 1 by omega), fun y => Nat.le_trans (Nat.le_of_eq (e 17 y 0 (by omega))) (Nat.le_trans (g5 y) (by omega))⟩
  · rw [if_pos h1]
    exact h.up
theorem li_setMark {S : Sg} {P : List Pc} {nx n : Nat} (h : LI S P nx n) (a g b c : Int) : LIR (oSetMark a g b c S P nx) (n + 1) := by
  have hi := inv_setMark h.1 a g b c
  unfold oSetMark at hi ⊢
  by_cases h1 : 0 ≤ a ∧ a < nsS S
  · rw [if_neg (fun q => q h1)] at hi ⊢
    by_cases h2 : (-1 ≤ g ∧ g ≤ 3) ∧ (0 ≤ b ∧ b ≤ 4) ∧ 0 ≤ c ∧ c ≤ 4
    · rw [if_neg (fun q => q h2)] at hi ⊢
      by_cases h3 : heldS P a.toNat = true
      · rw [if_pos h3]
        exact h.up
      · rw [if_neg h3] at hi ⊢
        obtain ⟨g1, g2, g3, g4, g5⟩ := h
        have e : ∀ f i q, ¬ ((f = 11 ∨ f = 12 ∨ f = 13) ∧ i = a.toNat) → up3 (up3 (up3 S 11 a.toNat 0 (g + 1).toNat) 12 a.toNat 0 b.toNat) 13 a.toNat 0 c.toNat f i q = S f i q := fun f i q h => by
          rw [up3_ne _ _ (by omega), up3_ne _ _ (by omega), up3_ne _ _ (by omega)]
        exact ⟨hi, g2.cg3 (Nat.le_refl _) (Nat.le_refl _) (fun f i q u v (w : nsS S ≤ i) => e f i q (by omega)) (fun y j _ => e 16 y j (by omega)) (fun y _ => e 17 y 0 (by omega)), g3.cg (fun f i q u => e f i q (by omega)), (show nx ≤ n + 1 by omega), fun y => Nat.le_trans (Nat.le_of_eq (e 17 y 0 (by omega))) (Nat.le_trans (g5 y) (by omega))⟩
    · rw [if_pos h2]
      exact h.up
  · rw [if_pos h1]
    exact h.up
theorem li_addPart {S : Sg} {P : List Pc} {nx n : Nat} (h : LI S P nx n) (a b c : Int) : LIR (oAddPart a b c S P nx) (n + 1) := by
  have hi := inv_addPart h.1 a b c
  unfold oAddPart at hi ⊢
  by_cases h1 : ¬ (0 ≤ a ∧ a < ntS S) ∨ ¬ (0 ≤ b ∧ b < nsS S)
  · rw [if_pos h1]
    exact h.up
  · rw [if_neg h1] at hi ⊢
    by_cases h2 : 1 ≤ c ∧ c ≤ 4
    · rw [if_neg (fun q => q h2)] at hi ⊢
      by_cases h3 : 0 < ctS S a.toNat b.toNat ∨ 0 < mdS S a.toNat
      · rw [if_pos h3]
        exact h.up
      · rw [if_neg h3] at hi ⊢
        obtain ⟨g1, g2, g3, g4, g5⟩ := h
        have e : ∀ f i q, ¬ (f = 16 ∧ i = a.toNat ∧ q = b.toNat) → up3 S 16 a.toNat b.toNat c.toNat f i q = S f i q := fun f i q h => up3_ne _ _ h
        exact ⟨hi, g2.cg3 (Nat.le_refl _) (Nat.le_refl _) (fun f i q u v _ => e f i q (by omega)) (fun y j (w : ntS S ≤ y ∨ nsS S ≤ j) => e 16 y j (by omega)) (fun y _ => e 17 y 0 (by omega)), g3.cg (fun f i q u => e f i q (by omega)), (show nx ≤ n + 1 by omega), fun y => Nat.le_trans (Nat.le_of_eq (e 17 y 0 (by omega))) (Nat.le_trans (g5 y) (by omega))⟩
    · rw [if_pos h2]
      exact h.up
theorem li_make {S : Sg} {P : List Pc} {nx n : Nat} (h : LI S P nx n) (a g : Int) : LIR (oMake a g S P nx) (n + 1) := by
  have hi := inv_make h.1 a g
  unfold oMake at hi ⊢
  by_cases h1 : 0 ≤ a ∧ a < ntS S
  · rw [if_neg (fun q => q h1)] at hi ⊢
    by_cases h2 : 1 ≤ g ∧ g ≤ 99
    · rw [if_neg (fun q => q h2)] at hi ⊢
      by_cases h3 : takS S a.toNat = 0
      · rw [if_pos h3]
        exact h.up
      · rw [if_neg h3] at hi ⊢
        by_cases h4 : (giN S a.toNat (nsS S) : Int) < g
        · rw [if_pos h4]
          exact h.up
        · rw [if_neg h4] at hi ⊢
          obtain ⟨g1, g2, g3, g4, g5⟩ := h
          refine ⟨hi, g2.cg3 (Nat.le_refl _) (Nat.le_refl _) (fun f i q u v (w : nsS S ≤ i) => ?_) (fun y j _ => ?_) (fun y (w : ntS S ≤ y) => ?_), g3.cg (fun f i q u => ?_), (show nx ≤ n + 1 by omega), fun y => ?_⟩
          · show mkS S a.toNat g.toNat f i q = _
            unfold mkS
            rw [if_neg (by omega), if_neg (by omega), if_neg (by omega)]
          · show mkS S a.toNat g.toNat 16 y j = _
            unfold mkS
            rw [if_neg (by omega), if_neg (by omega), if_neg (by omega)]
          · show mkS S a.toNat g.toNat 17 y 0 = _
            unfold mkS
            rw [if_neg (by omega), if_neg (by omega), if_neg (by omega)]
          · show mkS S a.toNat g.toNat f i q = _
            unfold mkS
            rw [if_neg (by omega), if_neg (by omega), if_neg (by omega)]
          · show mkS S a.toNat g.toNat 17 y 0 ≤ _
            have h5 := g5 y
            have h5' : S 17 y 0 ≤ 99 * n := h5
            unfold mkS
            rw [if_neg (by omega), if_neg (by omega)]
            split
            · rename_i e9
              have h6 : S 17 a.toNat 0 ≤ 99 * n := g5 a.toNat
              omega
            · omega
    · rw [if_pos h2]
      exact h.up
  · rw [if_pos h1]
    exact h.up
theorem li_spread {S : Sg} {P : List Pc} {nx n : Nat} (h : LI S P nx n) (a : Int) : LIR (oSpread a S P nx) (n + 1) := by
  have hi := inv_spread h.1 a
  unfold oSpread at hi ⊢
  by_cases h1 : 1 ≤ a ∧ a ≤ 50
  · rw [if_neg (fun q => q h1)] at hi ⊢
    by_cases h2 : P.length = 0
    · rw [if_pos h2]
      exact h.up
    · rw [if_neg h2] at hi ⊢
      by_cases h3 : rlS S < rowsS S P a.toNat ∨ ¬ fitB S P a.toNat (nsS S) = true
      · rw [if_pos h3]
        exact h.up
      · rw [if_neg h3] at hi ⊢
        obtain ⟨g1, g2, g3, g4, g5⟩ := h
        have e : ∀ f i q, ¬ (f = 14 ∧ i < nsS S) → f ≠ 18 → spS S P a.toNat (nsS S) (rlS S - rowsS S P a.toNat) f i q = S f i q := fun f i q u v => by
          unfold spS
          rw [if_neg (by omega), if_neg (by omega)]
        exact ⟨hi, g2.cg3 (Nat.le_refl _) (Nat.le_refl _) (fun f i q u v (w : nsS S ≤ i) => e f i q (by omega) (by omega)) (fun y j _ => e 16 y j (by omega) (by omega)) (fun y _ => e 17 y 0 (by omega) (by omega)), g3.cg (fun f i q u => e f i q (by omega) (by omega)), (show nx ≤ n + 1 by omega), fun y => Nat.le_trans (Nat.le_of_eq (e 17 y 0 (by omega) (by omega))) (Nat.le_trans (g5 y) (by omega))⟩
  · rw [if_pos h1]
    exact h.up
theorem countP_one {f : Nat → Bool} {k : Nat} (hk : f k = false) : ∀ m, (List.range m).countP (fun i => if i = k then true else f i) = (List.range m).countP f + if k < m then 1 else 0
  | 0 => rfl
  | m + 1 => by
    rw [List.range_succ, List.countP_append, List.countP_append, countP_one hk m]
    simp only [List.countP_cons, List.countP_nil]
    by_cases e : m = k
    · subst e
      rw [if_neg (Nat.lt_irrefl _), if_pos (Nat.lt_succ_self _), hk]
      simp
    · rw [if_neg e]
      by_cases h : k < m
      · have e1 : (if k < m then 1 else 0 : Nat) = 1 := if_pos h
        have e2 : (if k < m + 1 then 1 else 0 : Nat) = 1 := if_pos (by omega)
        omega
      · have e1 : (if k < m then 1 else 0 : Nat) = 0 := if_neg h
        have e2 : (if k < m + 1 then 1 else 0 : Nat) = 0 := if_neg (by omega)
        omega
theorem li_addCell {S : Sg} {P : List Pc} {nx n : Nat} (h : LI S P nx n) (a b c : Int) : LIR (oAddCell a b c S P nx) (n + 1) := by
  have hi := inv_addCell h.1 h.2.2.1 a b c
  unfold oAddCell at hi ⊢
  by_cases h1 : 0 ≤ a ∧ a < nsS S
  · rw [if_neg (fun q => q h1)] at hi ⊢
    by_cases h2 : (0 ≤ b ∧ b ≤ 4) ∧ 0 ≤ c ∧ c ≤ 4
    · rw [if_neg (fun q => q h2)] at hi ⊢
      by_cases h3 : drS S a.toNat (5 * b.toNat + c.toNat) ≠ 0
      · rw [if_pos h3]
        exact h.up
      · rw [if_neg h3] at hi ⊢
        by_cases h4 : heldS P a.toNat = true ∨ 0 < eS S a.toNat
        · rw [if_pos h4]
          exact h.up
        · rw [if_neg h4] at hi ⊢
          obtain ⟨g1, g2, g3, g4, g5⟩ := h
          have e : ∀ f i q, ¬ ((f = 9 ∨ f = 10) ∧ i = a.toNat) → up3 (up3 S 9 a.toNat (5 * b.toNat + c.toNat) 1) 10 a.toNat 0 (szS S a.toNat + 1) f i q = S f i q := fun f i q h => by
            rw [up3_ne _ _ (by omega), up3_ne _ _ (by omega)]
          refine ⟨hi, g2.cg3 (Nat.le_refl _) (Nat.le_refl _) (fun f i q u v (w : nsS S ≤ i) => e f i q (by omega)) (fun y j _ => e 16 y j (by omega)) (fun y _ => e 17 y 0 (by omega)), fun j => ?_, (show nx ≤ n + 1 by omega), fun y => Nat.le_trans (Nat.le_of_eq (e 17 y 0 (by omega))) (Nat.le_trans (g5 y) (by omega))⟩
          show up3 (up3 S 9 a.toNat (5 * b.toNat + c.toNat) 1) 10 a.toNat 0 (szS S a.toNat + 1) 10 j 0 = (List.range 25).countP (fun k => decide (up3 (up3 S 9 a.toNat (5 * b.toNat + c.toNat) 1) 10 a.toNat 0 (szS S a.toNat + 1) 9 j k ≠ 0))
          by_cases hj : j = a.toNat
          · subst hj
            rw [up3_eq, show szS S a.toNat = _ from g3 a.toNat]
            have hk : dB S a.toNat (5 * b.toNat + c.toNat) = false := by
              unfold dB
              exact decide_eq_false h3
            have := countP_one hk 25
            rw [if_pos (by omega)] at this
            rw [← this]
            refine List.countP_congr fun k _ => ?_
            rw [up3_ne _ _ (by omega)]
            by_cases hkk : k = 5 * b.toNat + c.toNat
            · rw [if_pos hkk, hkk, up3_eq]
              simp
            · rw [if_neg hkk, up3_ne _ _ (by omega)]
              rfl
          · rw [e 10 j 0 (by omega), show S 10 j 0 = _ from g3 j]
            refine List.countP_congr fun k _ => ?_
            rw [e 9 j k (by omega)]
            rfl
    · rw [if_pos h2]
      exact h.up
  · rw [if_pos h1]
    exact h.up
