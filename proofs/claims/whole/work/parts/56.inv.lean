/-! what holds of the state is kept by the calls -/
def InvR (o : Res) : Prop := Inv o.2.2.1 o.2.2.2.1 o.2.2.2.2
theorem PInv.nil {S : Sg} {nx : Nat} : PInv S [] nx := by
  unfold PInv
  refine ⟨?_, List.Pairwise.nil, ?_⟩
  · intro p hp
    cases hp
  · intro p hp
    cases hp
theorem inv_clear {S : Sg} {P : List Pc} {nx : Nat} (hI : Inv S P nx) : InvR (oClear S P nx) := ⟨hI.1, PInv.nil, Nat.zero_le _, hI.2.2.2⟩
theorem inv_takeOff {S : Sg} {P : List Pc} {nx : Nat} (hI : Inv S P nx) (a : Int) : InvR (oTakeOff a S P nx) := by
  unfold oTakeOff
  cases slotS P a with
  | none => exact hI
  | some i => exact ⟨hI.1, PInv.erase hI.2.1 i, Nat.le_trans (List.length_eraseIdx_le P i) hI.2.2.1, hI.2.2.2⟩
theorem inv_lay {S : Sg} {P : List Pc} {nx : Nat} (hI : Inv S P nx) (a t b c : Int) (w : Nat) (hw : w ≤ 1) : InvR (oLay a t b c w S P nx) := by
  unfold oLay
  by_cases h1 : 0 ≤ a ∧ a < nsS S
  · rw [if_neg (fun q => q h1)]
    by_cases h2 : 0 ≤ t ∧ t ≤ 3
    · rw [if_neg (fun q => q h2)]
      by_cases h3 : reasonS S P a.toNat t.toNat w b c = 45
      · rw [if_neg (fun q => q h3)]
        by_cases h4 : 40 ≤ P.length
        · rw [if_pos h4]
          exact hI
        · rw [if_neg h4]
          have hf := reason_free h3
          obtain ⟨u, rfl⟩ := Int.eq_ofNat_of_zero_le hf.2.2.2.1.1.1
          obtain ⟨v, rfl⟩ := Int.eq_ofNat_of_zero_le hf.2.2.2.1.2.1
          rw [Int.toNat_natCast, Int.toNat_natCast]
          exact ⟨hI.1, PInv.put hI.1 hI.2.1 (by omega) (by omega) hw h3, by show (P ++ [_]).length ≤ 40; rw [List.length_append]; show P.length + 1 ≤ 40; omega, hI.2.2.2⟩
      · rw [if_pos h3]
        exact hI
    · rw [if_pos h2]
      exact hI
  · rw [if_pos h1]
    exact hI
theorem inv_nest {S : Sg} {P : List Pc} {nx : Nat} (hI : Inv S P nx) (a : Int) (w : Nat) (hw : w ≤ 1) (z : Int) (hz : FSp S P a.toNat w z) : InvR (oNest a w z S P nx) := by
  unfold oNest
  by_cases h1 : 0 ≤ a ∧ a < nsS S
  · rw [if_neg (fun q => q h1)]
    by_cases h3 : z = -1
    · rw [if_pos h3]
      exact hI
    · rw [if_neg h3]
      by_cases h4 : 40 ≤ P.length
      · rw [if_pos h4]
        exact hI
      · rw [if_neg h4]
        rcases hz with ⟨q, -⟩ | ⟨x, q1, rfl, q3, -⟩
        · exact absurd q h3
        · rw [Int.toNat_natCast]
          exact ⟨hI.1, PInv.put hI.1 hI.2.1 (by omega) (by omega) hw q3, by show (P ++ [_]).length ≤ 40; rw [List.length_append]; show P.length + 1 ≤ 40; omega, hI.2.2.2⟩
  · rw [if_pos h1]
    exact hI
theorem inv_fold {S : Sg} {P : List Pc} {nx : Nat} (hI : Inv S P nx) (b : Nat) (hb : b ≤ 1) : InvR (oFold b S P nx) := by
  unfold oFold
  by_cases h1 : 0 < P.length
  · rw [if_pos h1]
    exact hI
  · rw [if_neg h1]
    have hP0 : P = [] := List.eq_nil_of_length_eq_zero (by omega)
    subst hP0
    obtain ⟨⟨g1, g2, g3, g4, g5, g6, g7, g8, g9, g10, g11, g12⟩, hP, hL, hz⟩ := hI
    exact ⟨⟨g1, g2, hb, g4, g5, g6, g7, g8, g9, g10, g11, g12⟩, PInv.nil, Nat.zero_le _, hz⟩
theorem inv_clearFlaws {S : Sg} {P : List Pc} {nx : Nat} (hI : Inv S P nx) : InvR (oClearFlaws S P nx) := by
  obtain ⟨⟨g1, g2, g3, g4, g5, g6, g7, g8, g9, g10, g11, g12⟩, hP, hL, hz⟩ := hI
  exact ⟨⟨g1, g2, g3, g4, Nat.zero_le _, g6, g7, fun r c _ _ h => absurd rfl h, fun k _ => Nat.zero_le _, g10, g11, g12⟩, hP, hL, fun _ k _ => rfl⟩
theorem inv_setCloth {S : Sg} {P : List Pc} {nx : Nat} (hI : Inv S P nx) (a : Int) (b : Nat) (c : Int) (hb : b ≤ 1) : InvR (oSetCloth a b c S P nx) := by
  unfold oSetCloth
  by_cases h1 : (2 ≤ a ∧ a ≤ 12) ∧ 0 ≤ c ∧ c ≤ 6
  · rw [if_neg (fun q => q h1)]
    by_cases h2 : 0 < P.length ∨ 0 < nfS S
    · rw [if_pos h2]
      exact hI
    · rw [if_neg h2]
      have hP0 : P = [] := List.eq_nil_of_length_eq_zero (by omega)
      subst hP0
      obtain ⟨⟨g1, g2, g3, g4, g5, g6, g7, g8, g9, g10, g11, g12⟩, hP, hL, hz⟩ := hI
      have hz' := hz (by omega)
      exact ⟨⟨⟨by show 2 ≤ a.toNat; omega, by show a.toNat ≤ 12; omega⟩, hb, g3, by show c.toNat ≤ 6; omega, g5, g6, g7, fun r c' hr hc h => absurd (hz' (12 * r + c') (by omega)) h, g9, g10, g11, g12⟩, PInv.nil, Nat.zero_le _, hz⟩
  · rw [if_pos h1]
    exact hI
