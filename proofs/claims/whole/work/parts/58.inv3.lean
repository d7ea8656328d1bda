/-! what holds of the state is kept by the calls, end -/
theorem inv_addFlaw {S : Sg} {P : List Pc} {nx : Nat} (hI : Inv S P nx) (a b : Int) : InvR (oAddFlaw a b S P nx) := by
  unfold oAddFlaw
  by_cases h1 : (0 ≤ a ∧ a ≤ 59) ∧ 0 ≤ b ∧ b ≤ (wdS S : Int) - 1
  · rw [if_neg (fun q => q h1)]
    by_cases h2 : underS S P a.toNat b.toNat
    · rw [if_pos h2]
      exact hI
    · rw [if_neg h2]
      by_cases h3 : flS S (12 * a.toNat + b.toNat) ≠ 0
      · rw [if_pos h3]
        exact hI
      · rw [if_neg h3]
        by_cases h4 : 12 ≤ nfS S
        · rw [if_pos h4]
          exact hI
        · rw [if_neg h4]
          obtain ⟨⟨g1, g2, g3, g4, g5, g6, g7, g8, g9, g10, g11, g12⟩, hP, hL, hz⟩ := hI
          have e : ∀ k, flS (up3 (up3 S 5 0 (12 * a.toNat + b.toNat) 1) 4 0 0 (nfS S + 1)) k = if k = 12 * a.toNat + b.toNat then 1 else flS S k := fun k => by
            show up3 (up3 S 5 0 (12 * a.toNat + b.toNat) 1) 4 0 0 (nfS S + 1) 5 0 k = _
            unfold up3
            rw [if_neg (fun q => absurd q.1 (by decide))]
            by_cases h : k = 12 * a.toNat + b.toNat
            · rw [if_pos ⟨rfl, rfl, h⟩, if_pos h]
            · rw [if_neg (fun q => h q.2.2), if_neg h]
          refine ⟨⟨g1, g2, g3, g4, ?_, g6, g7, fun r c hr hc h => ?_, fun k hk => ?_, g10, g11, g12⟩, hP, hL, fun q => ?_⟩
          · show nfS S + 1 ≤ 12
            omega
          · rw [e] at h
            by_cases hk : 12 * r + c = 12 * a.toNat + b.toNat
            · show c < wdS S
              omega
            · rw [if_neg hk] at h
              exact g8 r c hr hc h
          · rw [e]
            split
            · exact Nat.le_refl _
            · exact g9 k hk
          · have : nfS S + 1 = 0 := q
            omega
  · rw [if_pos h1]
    exact hI
theorem inv_addCloth {S : Sg} {P : List Pc} {nx : Nat} (hI : Inv S P nx) (a : Int) : InvR (oAddCloth a S P nx) := by
  unfold oAddCloth
  by_cases h1 : ¬ (1 ≤ a ∧ a ≤ 9999) ∨ 999999 < (rlS S : Int) + a
  · rw [if_pos h1]
    exact hI
  · rw [if_neg h1]
    obtain ⟨⟨g1, g2, g3, g4, g5, g6, g7, g8, g9, g10, g11, g12⟩, hP, hL, hz⟩ := hI
    exact ⟨⟨g1, g2, g3, g4, g5, g6, g7, g8, g9, g10, g11, by show rlS S + a.toNat ≤ 999999; omega⟩, hP, hL, hz⟩
theorem inv_addPart {S : Sg} {P : List Pc} {nx : Nat} (hI : Inv S P nx) (a b c : Int) : InvR (oAddPart a b c S P nx) := by
  unfold oAddPart
  by_cases h1 : ¬ (0 ≤ a ∧ a < ntS S) ∨ ¬ (0 ≤ b ∧ b < nsS S)
  · rw [if_pos h1]
    exact hI
  · rw [if_neg h1]
    by_cases h2 : 1 ≤ c ∧ c ≤ 4
    · rw [if_neg (fun q => q h2)]
      by_cases h3 : 0 < ctS S a.toNat b.toNat ∨ 0 < mdS S a.toNat
      · rw [if_pos h3]
        exact hI
      · rw [if_neg h3]
        exact ⟨GInv.part hI.1 _ _ _ (by omega), hI.2.1, hI.2.2.1, hI.2.2.2⟩
    · rw [if_pos h2]
      exact hI
theorem inv_spread {S : Sg} {P : List Pc} {nx : Nat} (hI : Inv S P nx) (a : Int) : InvR (oSpread a S P nx) := by
  unfold oSpread
  by_cases h1 : 1 ≤ a ∧ a ≤ 50
  · rw [if_neg (fun q => q h1)]
    by_cases h2 : P.length = 0
    · rw [if_pos h2]
      exact hI
    · rw [if_neg h2]
      by_cases h3 : rlS S < rowsS S P a.toNat ∨ ¬ fitB S P a.toNat (nsS S) = true
      · rw [if_pos h3]
        exact hI
      · rw [if_neg h3]
        have hrl := hI.1.2.2.2.2.2.2.2.2.2.2.2
        exact Inv.sp hI (by omega) (fitB_iff.mp (Decidable.byContradiction fun q => h3 (Or.inr q)))
  · rw [if_pos h1]
    exact hI
