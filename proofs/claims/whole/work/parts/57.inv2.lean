/-! what holds of the state is kept by the calls, on -/
theorem PInv.cg {S S' : Sg} {P : List Pc} {nx : Nat} (hI : PInv S P nx) (h : ∀ p ∈ P, ShpCg S S' (pShp p) ∧ szS S' (pShp p) = szS S (pShp p)) (hn : nsS S' = nsS S) (hf : fdS S' = fdS S) (hw : wdS S' = wdS S) (hs : srS S' = srS S) : PInv S' P nx := by
  obtain ⟨i1, i2, i3⟩ := hI
  have hcs : colsS S' = colsS S := by
    unfold colsS
    rw [hf, hw]
  refine ⟨fun p hp => ?_, ?_, fun p hp q hq hpq hz h2 => ?_⟩
  · obtain ⟨⟨e1, e2, e3, e4⟩, e5⟩ := h p hp
    rw [hn, e5, hf, e1, hcs]
    exact i1 p hp
  · refine i2.imp_of_mem fun {p q} hp hq hr => ⟨hr.1, fun r c => ?_⟩
    rw [cv_cg (h p hp).1.1, cv_cg (h q hq).1.1]
    exact hr.2 r c
  · rw [(h p hp).1.2.1, (h q hq).1.2.1] at hpq
    rw [(h p hp).1.2.1] at hz
    rw [hs] at h2
    rw [remP_cg (h p hp).1 hs, remP_cg (h q hq).1 hs]
    exact i3 p hp q hq hpq hz h2
theorem inv_addCell {S : Sg} {P : List Pc} {nx : Nat} (hI : Inv S P nx) (hsz : ∀ j, szS S j = (List.range 25).countP (fun k => dB S j k)) (a b c : Int) : InvR (oAddCell a b c S P nx) := by
  unfold oAddCell
  by_cases h1 : 0 ≤ a ∧ a < nsS S
  · rw [if_neg (fun q => q h1)]
    by_cases h2 : (0 ≤ b ∧ b ≤ 4) ∧ 0 ≤ c ∧ c ≤ 4
    · rw [if_neg (fun q => q h2)]
      by_cases h3 : drS S a.toNat (5 * b.toNat + c.toNat) ≠ 0
      · rw [if_pos h3]
        exact hI
      · rw [if_neg h3]
        by_cases h4 : heldS P a.toNat = true ∨ 0 < eS S a.toNat
        · rw [if_pos h4]
          exact hI
        · rw [if_neg h4]
          have hno : ∀ p ∈ P, pShp p ≠ a.toNat := fun p hp q => h4 (Or.inl (heldS_iff.mpr ⟨p, hp, q⟩))
          obtain ⟨⟨g1, g2, g3, g4, g5, g6, g7, g8, g9, g10, g11, g12⟩, hP, hL, hz⟩ := hI
          have hle : szS S a.toNat < 25 := by
            rw [hsz]
            refine Nat.lt_of_le_of_ne ?_ fun e => ?_
            · exact Nat.le_trans List.countP_le_length (by rw [List.length_range]; exact Nat.le_refl _)
            · have hl : (List.range 25).countP (fun k => dB S a.toNat k) = (List.range 25).length := by rw [e, List.length_range]
              have := List.countP_eq_length.mp hl (5 * b.toNat + c.toNat) (List.mem_range.mpr (by omega))
              unfold dB at this
              exact h3 (of_decide_eq_true this)
          refine ⟨⟨g1, g2, g3, g4, g5, g6, g7, g8, g9, fun j => ?_, g11, g12⟩, PInv.cg hP (fun p hp => ?_) rfl rfl rfl rfl, hL, hz⟩
          · obtain ⟨p1, p2, p3, p4, p5, p6, p7, p8, p9⟩ := g10 j
            refine ⟨p1, p2, p3, p4, ?_, p6, p7, p8, fun k => ?_⟩
            · show up3 (up3 S 9 a.toNat (5 * b.toNat + c.toNat) 1) 10 a.toNat 0 (szS S a.toNat + 1) 10 j 0 ≤ 25
              unfold up3
              split
              · omega
              · exact p5
            · show up3 (up3 S 9 a.toNat (5 * b.toNat + c.toNat) 1) 10 a.toNat 0 (szS S a.toNat + 1) 9 j k ≤ 1
              unfold up3
              rw [if_neg (fun q => absurd q.1 (by decide))]
              split
              · exact Nat.le_refl _
              · exact p9 k
          · have e : ∀ f k, up3 (up3 S 9 a.toNat (5 * b.toNat + c.toNat) 1) 10 a.toNat 0 (szS S a.toNat + 1) f (pShp p) k = S f (pShp p) k := fun f k => by
              unfold up3
              rw [if_neg (fun q => hno p hp q.2.1), if_neg (fun q => hno p hp q.2.1)]
            exact ⟨⟨dB_cgj e, e 11 0, e 12 0, e 13 0⟩, e 10 0⟩
    · rw [if_pos h2]
      exact hI
  · rw [if_pos h1]
    exact hI
theorem inv_setMark {S : Sg} {P : List Pc} {nx : Nat} (hI : Inv S P nx) (a g b c : Int) : InvR (oSetMark a g b c S P nx) := by
  unfold oSetMark
  by_cases h1 : 0 ≤ a ∧ a < nsS S
  · rw [if_neg (fun q => q h1)]
    by_cases h2 : (-1 ≤ g ∧ g ≤ 3) ∧ (0 ≤ b ∧ b ≤ 4) ∧ 0 ≤ c ∧ c ≤ 4
    · rw [if_neg (fun q => q h2)]
      by_cases h4 : heldS P a.toNat = true
      · rw [if_pos h4]
        exact hI
      · rw [if_neg h4]
        have hno : ∀ p ∈ P, pShp p ≠ a.toNat := fun p hp q => h4 (heldS_iff.mpr ⟨p, hp, q⟩)
        obtain ⟨⟨g1, g2, g3, g4, g5, g6, g7, g8, g9, g10, g11, g12⟩, hP, hL, hz⟩ := hI
        refine ⟨⟨g1, g2, g3, g4, g5, g6, g7, g8, g9, fun j => ?_, g11, g12⟩, PInv.cg hP (fun p hp => ?_) rfl rfl rfl rfl, hL, hz⟩
        · obtain ⟨p1, p2, p3, p4, p5, p6, p7, p8, p9⟩ := g10 j
          refine ⟨p1, ?_, ?_, ?_, p5, p6, p7, p8, p9⟩
          · show up3 (up3 (up3 S 11 a.toNat 0 (g + 1).toNat) 12 a.toNat 0 b.toNat) 13 a.toNat 0 c.toNat 11 j 0 ≤ 4
            unfold up3
            rw [if_neg (fun q => absurd q.1 (by decide)), if_neg (fun q => absurd q.1 (by decide))]
            split
            · omega
            · exact p2
          · show up3 (up3 (up3 S 11 a.toNat 0 (g + 1).toNat) 12 a.toNat 0 b.toNat) 13 a.toNat 0 c.toNat 12 j 0 ≤ 4
            unfold up3
            rw [if_neg (fun q => absurd q.1 (by decide))]
            split
            · omega
            · exact p3
          · show up3 (up3 (up3 S 11 a.toNat 0 (g + 1).toNat) 12 a.toNat 0 b.toNat) 13 a.toNat 0 c.toNat 13 j 0 ≤ 4
            unfold up3
            split
            · omega
            · exact p4
        · have e : ∀ f k, up3 (up3 (up3 S 11 a.toNat 0 (g + 1).toNat) 12 a.toNat 0 b.toNat) 13 a.toNat 0 c.toNat f (pShp p) k = S f (pShp p) k := fun f k => by
            unfold up3
            rw [if_neg (fun q => hno p hp q.2.1), if_neg (fun q => hno p hp q.2.1), if_neg (fun q => hno p hp q.2.1)]
          exact ⟨⟨dB_cgj e, e 11 0, e 12 0, e 13 0⟩, e 10 0⟩
    · rw [if_pos h2]
      exact hI
  · rw [if_pos h1]
    exact hI
