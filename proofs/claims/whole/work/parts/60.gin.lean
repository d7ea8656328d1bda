/-! how many garments the stock holds -/
theorem giN_iff {S : Sg} {y g : Nat} (n : Nat) : g ≤ giN S y n ↔ g ≤ 9999 ∧ okT S y g n := by
  induction n with
  | zero => exact ⟨fun h => ⟨h, fun j hj => absurd hj (Nat.not_lt_zero j)⟩, fun h => h.1⟩
  | succ n ih =>
    have key : okT S y g (n + 1) ↔ okT S y g n ∧ (g * ctS S y n ≤ stS S n 0 ∧ (paS S n = 1 → g * ctS S y n ≤ stS S n 1)) := by
      constructor
      · intro h
        exact ⟨fun j hj => h j (by omega), h n (by omega)⟩
      · rintro ⟨h1, h2⟩ j hj
        by_cases h : j = n
        · rw [h]
          exact h2
        · exact h1 j (by omega)
    rw [key, giN]
    by_cases hc : 0 < ctS S y n
    · rw [if_pos hc, Nat.le_min, ih, Nat.le_div_iff_mul_le hc]
      by_cases hp : paS S n = 1
      · rw [if_pos hp, Nat.le_min]
        constructor
        · rintro ⟨⟨h1, h2⟩, h3, h4⟩
          exact ⟨h1, h2, h3, fun _ => h4⟩
        · rintro ⟨h1, h2, h3, h4⟩
          exact ⟨⟨h1, h2⟩, h3, h4 hp⟩
      · rw [if_neg hp]
        constructor
        · rintro ⟨⟨h1, h2⟩, h3⟩
          exact ⟨h1, h2, h3, fun q => absurd q hp⟩
        · rintro ⟨h1, h2, h3, -⟩
          exact ⟨⟨h1, h2⟩, h3⟩
    · rw [if_neg hc, ih, show ctS S y n = 0 by omega, Nat.mul_zero]
      constructor
      · rintro ⟨h1, h2⟩
        exact ⟨h1, h2, Nat.zero_le _, fun _ => Nat.zero_le _⟩
      · rintro ⟨h1, h2, -⟩
        exact ⟨h1, h2⟩
