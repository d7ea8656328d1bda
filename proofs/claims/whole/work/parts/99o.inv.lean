/-! what the law's loop keeps -/
theorem PInv.cg2 {S S' : Sg} {P : List Pc} {nx : Nat} (hI : PInv S P nx) (h : ∀ p ∈ P, ShpCg S S' (pShp p) ∧ szS S' (pShp p) = szS S (pShp p)) (hn : nsS S ≤ nsS S') (hf : fdS S' = fdS S) (hw : wdS S' = wdS S) (hs : srS S' = srS S) : PInv S' P nx := by
  obtain ⟨i1, i2, i3⟩ := hI
  have hcs : colsS S' = colsS S := by
    unfold colsS
    rw [hf, hw]
  refine ⟨fun p hp => ?_, ?_, fun p hp q hq hpq hz h2 => ?_⟩
  · obtain ⟨⟨e1, e2, e3, e4⟩, e5⟩ := h p hp
    rw [e5, hf, e1, hcs]
    exact ⟨Nat.lt_of_lt_of_le (i1 p hp).1 hn, (i1 p hp).2⟩
  · refine i2.imp_of_mem fun {p q} hp hq hr => ⟨hr.1, fun r c => ?_⟩
    rw [cv_cg (h p hp).1.1, cv_cg (h q hq).1.1]
    exact hr.2 r c
  · rw [(h p hp).1.2.1, (h q hq).1.2.1] at hpq
    rw [(h p hp).1.2.1] at hz
    rw [hs] at h2
    rw [remP_cg (h p hp).1 hs, remP_cg (h q hq).1 hs]
    exact i3 p hp q hq hpq hz h2
theorem inv_addShape {S : Sg} {P : List Pc} {nx : Nat} (hI : Inv S P nx) (a : Int) (b : Nat) (hb : b ≤ 1) : InvR (oAddShape a b S P nx) := by
  unfold oAddShape
  by_cases h1 : a = 110 ∨ a = 104 ∨ a = 113
  · rw [if_neg (fun q => q h1)]
    by_cases h2 : 8 ≤ nsS S
    · rw [if_pos h2]
      exact hI
    · rw [if_neg h2]
      obtain ⟨⟨g1, g2, g3, g4, g5, g6, g7, g8, g9, g10, g11, g12⟩, hP, hL, hz⟩ := hI
      generalize hS : up3 (up3 (up3 S 7 (nsS S) 0 a.toNat) 8 (nsS S) 0 b) 6 0 0 (nsS S + 1) = S'
      have e : ∀ f i q, ¬ (f = 6 ∨ f = 7 ∨ f = 8) → S' f i q = S f i q := fun f i q h => by
        rw [← hS, up3_ne _ _ (by omega), up3_ne _ _ (by omega), up3_ne _ _ (by omega)]
      have e6 : nsS S' = nsS S + 1 := by
        show S' 6 0 0 = _
        rw [← hS, up3_eq]
      have e7 : ∀ j, ruS S' j ≤ 127 := fun j => by
        show S' 7 j 0 ≤ 127
        have := (g10 j).2.2.2.2.2.1
        rw [← hS, up3_ne _ _ (by omega), up3_ne _ _ (by omega)]
        unfold up3
        split
        · omega
        · exact this
      have e8 : ∀ j, paS S' j ≤ 1 := fun j => by
        show S' 8 j 0 ≤ 1
        have := (g10 j).1
        rw [← hS, up3_ne _ _ (by omega)]
        unfold up3
        split
        · exact hb
        · rw [if_neg (by omega)]
          exact this
      have hdB : ∀ j, dB S' j = dB S j := fun j => by
        funext k
        unfold dB
        rw [show drS S' j k = drS S j k from e 9 _ k (by omega)]
      have w0 : wdS S' = wdS S := e 0 0 0 (by omega)
      have w2 : fdS S' = fdS S := e 2 0 0 (by omega)
      have w3 : srS S' = srS S := e 3 0 0 (by omega)
      refine ⟨⟨by rw [w0]; exact g1, by rw [show npS S' = npS S from e 1 0 0 (by omega)]; exact g2, by rw [w2]; exact g3, by rw [w3]; exact g4, by rw [show nfS S' = nfS S from e 4 0 0 (by omega)]; exact g5, by rw [e6]; omega, by rw [show ntS S' = ntS S from e 15 0 0 (by omega)]; exact g7, fun r c h3 h4 h5 => ?_, fun k hk => by rw [show flS S' k = flS S k from e 5 0 k (by omega)]; exact g9 k hk, fun j => ?_, fun y j => by rw [show ctS S' y j = ctS S y j from e 16 y j (by omega)]; exact g11 y j, by rw [show rlS S' = rlS S from e 18 0 0 (by omega)]; exact g12⟩, PInv.cg2 hP (fun p hp => ⟨⟨hdB _, e 11 _ 0 (by omega), e 12 _ 0 (by omega), e 13 _ 0 (by omega)⟩, e 10 _ 0 (by omega)⟩) (Nat.le_trans (Nat.le_succ _) (Nat.le_of_eq e6.symm)) w2 w0 w3, hL, fun h k hk => ?_⟩
      · rw [show flS S' (12 * r + c) = flS S (12 * r + c) from e 5 0 _ (by omega)] at h5
        rw [w0]
        exact g8 r c h3 h4 h5
      · obtain ⟨p1, p2, p3, p4, p5, p6, p7, p8, p9⟩ := g10 j
        exact ⟨e8 j, by rw [show gpS S' j = gpS S j from e 11 j 0 (by omega)]; exact p2, by rw [show mrS S' j = mrS S j from e 12 j 0 (by omega)]; exact p3, by rw [show mcS S' j = mcS S j from e 13 j 0 (by omega)]; exact p4, by rw [show szS S' j = szS S j from e 10 j 0 (by omega)]; exact p5, e7 j, by rw [show stS S' j 0 = stS S j 0 from e 14 j 0 (by omega)]; exact p7, by rw [show stS S' j 1 = stS S j 1 from e 14 j 1 (by omega)]; exact p8, fun k => by rw [show drS S' j k = drS S j k from e 9 j k (by omega)]; exact p9 k⟩
      · rw [show nfS S' = nfS S from e 4 0 0 (by omega)] at h
        rw [show flS S' k = flS S k from e 5 0 k (by omega)]
        exact hz h k hk
  · rw [if_pos h1]
    exact hI
theorem inv_addStyle {S : Sg} {P : List Pc} {nx : Nat} (hI : Inv S P nx) : InvR (oAddStyle S P nx) := by
  unfold oAddStyle
  by_cases h1 : 4 ≤ ntS S
  · rw [if_pos h1]
    exact hI
  · rw [if_neg h1]
    obtain ⟨⟨g1, g2, g3, g4, g5, g6, g7, g8, g9, g10, g11, g12⟩, hP, hL, hz⟩ := hI
    exact ⟨⟨g1, g2, g3, g4, g5, g6, (by show ntS S + 1 ≤ 4; omega), g8, g9, g10, g11, g12⟩, PInv.cg hP (fun p hp => ⟨⟨rfl, rfl, rfl, rfl⟩, rfl⟩) rfl rfl rfl rfl, hL, hz⟩
theorem inv_make {S : Sg} {P : List Pc} {nx : Nat} (hI : Inv S P nx) (a g : Int) : InvR (oMake a g S P nx) := by
  unfold oMake
  by_cases h1 : 0 ≤ a ∧ a < ntS S
  · rw [if_neg (fun q => q h1)]
    by_cases h2 : 1 ≤ g ∧ g ≤ 99
    · rw [if_neg (fun q => q h2)]
      by_cases h3 : takS S a.toNat = 0
      · rw [if_pos h3]
        exact hI
      · rw [if_neg h3]
        by_cases h4 : (giN S a.toNat (nsS S) : Int) < g
        · rw [if_pos h4]
          exact hI
        · rw [if_neg h4]
          obtain ⟨⟨g1, g2, g3, g4, g5, g6, g7, g8, g9, g10, g11, g12⟩, hP, hL, hz⟩ := hI
          refine ⟨⟨g1, g2, g3, g4, g5, g6, g7, g8, g9, fun j => ?_, g11, g12⟩, PInv.cg hP (fun p hp => ⟨⟨rfl, rfl, rfl, rfl⟩, rfl⟩) rfl rfl rfl rfl, hL, hz⟩
          obtain ⟨p1, p2, p3, p4, p5, p6, p7, p8, p9⟩ := g10 j
          have e14 : ∀ q, stS (mkS S a.toNat g.toNat) j q ≤ stS S j q := fun q => by
            show mkS S a.toNat g.toNat 14 j q ≤ S 14 j q
            unfold mkS
            split
            · rename_i h
              rw [h.2.2]
              exact Nat.sub_le _ _
            · split
              · rename_i h
                rw [h.2.2.1]
                exact Nat.sub_le _ _
              · rw [if_neg (by omega)]
                exact Nat.le_refl _
          exact ⟨p1, p2, p3, p4, p5, p6, Nat.le_trans (e14 0) p7, Nat.le_trans (e14 1) p8, p9⟩
    · rw [if_pos h2]
      exact hI
  · rw [if_pos h1]
    exact hI
/-- of a state after so many calls -/
def LI (S : Sg) (P : List Pc) (nx n : Nat) : Prop := Inv S P nx ∧ InvZ S ∧ InvC S ∧ nx ≤ n ∧ ∀ y, mdS S y ≤ 99 * n
def LIR (o : Res) (n : Nat) : Prop := LI o.2.2.1 o.2.2.2.1 o.2.2.2.2 n
theorem LI.up {S : Sg} {P : List Pc} {nx n : Nat} (h : LI S P nx n) : LI S P nx (n + 1) := by
  obtain ⟨h1, h2, h3, h4, h5⟩ := h
  exact ⟨h1, h2, h3, by omega, fun y => by have := h5 y; omega⟩
theorem InvZ.cg {S S' : Sg} (h : InvZ S) (e : ∀ f i q, 6 ≤ f → f ≤ 17 → S' f i q = S f i q) : InvZ S' := by
  obtain ⟨h1, h2⟩ := h
  have e6 : nsS S' = nsS S := e 6 0 0 (by omega) (by omega)
  have e15 : ntS S' = ntS S := e 15 0 0 (by omega) (by omega)
  refine ⟨fun j hj => ?_, fun y hy => ?_⟩
  · rw [e6] at hj
    obtain ⟨z1, z2, z3, z4, z5, z6, z7, z8, z9, z10⟩ := h1 j hj
    exact ⟨(e 7 j 0 (by omega) (by omega)).trans z1, (e 8 j 0 (by omega) (by omega)).trans z2, fun k => (e 9 j k (by omega) (by omega)).trans (z3 k), (e 10 j 0 (by omega) (by omega)).trans z4, (e 11 j 0 (by omega) (by omega)).trans z5, (e 12 j 0 (by omega) (by omega)).trans z6, (e 13 j 0 (by omega) (by omega)).trans z7, (e 14 j 0 (by omega) (by omega)).trans z8, (e 14 j 1 (by omega) (by omega)).trans z9, fun y => (e 16 y j (by omega) (by omega)).trans (z10 y)⟩
  · rw [e15] at hy
    obtain ⟨z1, z2⟩ := h2 y hy
    exact ⟨(e 17 y 0 (by omega) (by omega)).trans z1, fun j => (e 16 y j (by omega) (by omega)).trans (z2 j)⟩
theorem InvC.cg {S S' : Sg} (h : InvC S) (e : ∀ f i q, f = 9 ∨ f = 10 → S' f i q = S f i q) : InvC S' := fun j => by
  have hdB : dB S' j = dB S j := by
    funext k
    unfold dB
    rw [show drS S' j k = drS S j k from e 9 j k (by omega)]
  rw [show szS S' j = szS S j from e 10 j 0 (by omega), h j, hdB]
/-- a call that changes the cloth, the marker or the roll alone -/
theorem LI.st {S S' : Sg} {P P' : List Pc} {nx nx' n : Nat} (h : LI S P nx n) (hI : Inv S' P' nx') (hn : nx' ≤ nx + 1) (e : ∀ f i q, 6 ≤ f → f ≤ 17 → S' f i q = S f i q) : LI S' P' nx' (n + 1) := by
  obtain ⟨h1, h2, h3, h4, h5⟩ := h
  exact ⟨hI, h2.cg e, h3.cg (fun f i q hf => e f i q (by omega) (by omega)), by omega, fun y => by
    rw [show mdS S' y = mdS S y from e 17 y 0 (by omega) (by omega)]
    have := h5 y
    omega⟩
/-- what the bounds are -/
theorem LI.bE {S : Sg} {P : List Pc} {nx n : Nat} (h : LI S P nx n) (hn : n ≤ 600) (j : Nat) : eS S j < 1000000000 := by
  obtain ⟨h1, h2, h3, h4, h5⟩ := h
  obtain ⟨p1, p2, p3, p4, p5, p6, p7, p8, p9⟩ := h1.1.2.2.2.2.2.2.2.2.2.1 j
  have hc : ∀ y, mdS S y * (ctS S y j * pppS S j) ≤ 99 * 600 * 8 := fun y => by
    have a1 : mdS S y ≤ 99 * 600 := Nat.le_trans (h5 y) (Nat.mul_le_mul_left _ hn)
    have a2 : ctS S y j * pppS S j ≤ 4 * 2 := Nat.mul_le_mul (h1.1.2.2.2.2.2.2.2.2.2.2.1 y j) (by unfold pppS; split <;> decide)
    exact Nat.le_trans (Nat.mul_le_mul a1 a2) (by decide)
  have hg : garS S j ≤ 4 * (99 * 600 * 8) := sumN_le fun y _ => hc y
  unfold eS
  omega
theorem li_setCloth {S : Sg} {P : List Pc} {nx n : Nat} (h : LI S P nx n) (a : Int) (b : Nat) (c : Int) (hb : b ≤ 1) : LIR (oSetCloth a b c S P nx) (n + 1) := by
  have hi := inv_setCloth h.1 a b c hb
  unfold oSetCloth at hi ⊢
  by_cases h1 : (2 ≤ a ∧ a ≤ 12) ∧ 0 ≤ c ∧ c ≤ 6
  · rw [if_neg (fun q => q h1)] at hi ⊢
    by_cases h2 : 0 < P.length ∨ 0 < nfS S
    · rw [if_pos h2]
      exact h.up
    · rw [if_neg h2] at hi ⊢
      exact h.st hi (Nat.le_succ _) (fun f i q h3 h4 => by
        show up3 (up3 (up3 S _ _ _ _) _ _ _ _) _ _ _ _ f i q = S f i q
        rw [up3_ne _ _ (by omega), up3_ne _ _ (by omega), up3_ne _ _ (by omega)])
  · rw [if_pos h1]
    exact h.up
theorem li_fold {S : Sg} {P : List Pc} {nx n : Nat} (h : LI S P nx n) (b : Nat) (hb : b ≤ 1) : LIR (oFold b S P nx) (n + 1) := by
  have hi := inv_fold h.1 b hb
  unfold oFold at hi ⊢
  by_cases h1 : 0 < P.length
  · rw [if_pos h1]
    exact h.up
  · rw [if_neg h1] at hi ⊢
    exact h.st hi (Nat.le_succ _) (fun f i q h3 h4 => up3_ne _ _ (by omega))
theorem li_addFlaw {S : Sg} {P : List Pc} {nx n : Nat} (h : LI S P nx n) (a b : Int) : LIR (oAddFlaw a b S P nx) (n + 1) := by
  have hi := inv_addFlaw h.1 a b
  unfold oAddFlaw at hi ⊢
  by_cases h1 : (0 ≤ a ∧ a ≤ 59) ∧ 0 ≤ b ∧ b ≤ (wdS S : Int) - 1
  · rw [if_neg (fun q => q h1)] at hi ⊢
    by_cases h2 : underS S P a.toNat b.toNat
    · rw [if_pos h2]
      exact h.up
    · rw [if_neg h2] at hi ⊢
      by_cases h3 : flS S (12 * a.toNat + b.toNat) ≠ 0
      · rw [if_pos h3]
        exact h.up
      · rw [if_neg h3] at hi ⊢
        by_cases h4 : 12 ≤ nfS S
        · rw [if_pos h4]
          exact h.up
        · rw [if_neg h4] at hi ⊢
          exact h.st hi (Nat.le_succ _) (fun f i q h3 h4 => by
            show up3 (up3 S _ _ _ _) _ _ _ _ f i q = S f i q
            rw [up3_ne _ _ (by omega), up3_ne _ _ (by omega)])
  · rw [if_pos h1]
    exact h.up
theorem li_addCloth {S : Sg} {P : List Pc} {nx n : Nat} (h : LI S P nx n) (a : Int) : LIR (oAddCloth a S P nx) (n + 1) := by
  have hi := inv_addCloth h.1 a
  unfold oAddCloth at hi ⊢
  by_cases h1 : ¬ (1 ≤ a ∧ a ≤ 9999) ∨ 999999 < (rlS S : Int) + a
  · rw [if_pos h1]
    exact h.up
  · rw [if_neg h1] at hi ⊢
    exact h.st hi (Nat.le_succ _) (fun f i q h3 h4 => up3_ne _ _ (by omega))
theorem li_clear {S : Sg} {P : List Pc} {nx n : Nat} (h : LI S P nx n) : LIR (oClear S P nx) (n + 1) := h.st (inv_clear h.1) (Nat.zero_le _) (fun _ _ _ _ _ => rfl)
theorem li_takeOff {S : Sg} {P : List Pc} {nx n : Nat} (h : LI S P nx n) (a : Int) : LIR (oTakeOff a S P nx) (n + 1) := by
  have hi := inv_takeOff h.1 a
  unfold oTakeOff at hi ⊢
  cases hs : slotS P a with
  | none => exact h.up
  | some i =>
    rw [hs] at hi
    exact h.st hi (Nat.le_succ _) (fun _ _ _ _ _ => rfl)
theorem li_lay {S : Sg} {P : List Pc} {nx n : Nat} (h : LI S P nx n) (a t b c : Int) (w : Nat) (hw : w ≤ 1) : LIR (oLay a t b c w S P nx) (n + 1) := by
  have hi := inv_lay h.1 a t b c w hw
  unfold oLay at hi ⊢
  by_cases h1 : 0 ≤ a ∧ a < nsS S
  · rw [if_neg (fun q => q h1)] at hi ⊢
    by_cases h2 : 0 ≤ t ∧ t ≤ 3
    · rw [if_neg (fun q => q h2)] at hi ⊢
      by_cases h3 : reasonS S P a.toNat t.toNat w b c = 45
      · rw [if_neg (fun q => q h3)] at hi ⊢
        by_cases h4 : 40 ≤ P.length
        · rw [if_pos h4]
          exact h.up
        · rw [if_neg h4] at hi ⊢
          exact h.st hi (Nat.le_refl _) (fun _ _ _ _ _ => rfl)
      · rw [if_pos h3]
        exact h.up
    · rw [if_pos h2]
      exact h.up
  · rw [if_pos h1]
    exact h.up
theorem li_nest {S : Sg} {P : List Pc} {nx n : Nat} (h : LI S P nx n) (a : Int) (w : Nat) (hw : w ≤ 1) (z : Int) (hz : FSp S P a.toNat w z) : LIR (oNest a w z S P nx) (n + 1) := by
  have hi := inv_nest h.1 a w hw z hz
  unfold oNest at hi ⊢
  by_cases h1 : 0 ≤ a ∧ a < nsS S
  · rw [if_neg (fun q => q h1)] at hi ⊢
    by_cases h2 : z = -1
    · rw [if_pos h2]
      exact h.up
    · rw [if_neg h2] at hi ⊢
      by_cases h4 : 40 ≤ P.length
      · rw [if_pos h4]
        exact h.up
      · rw [if_neg h4] at hi ⊢
        exact h.st hi (Nat.le_refl _) (fun _ _ _ _ _ => rfl)
  · rw [if_pos h1]
    exact h.up
theorem li_nested {S : Sg} {P : List Pc} {nx n : Nat} (h : LI S P nx n) (a : Int) : LIR (oNested a S P nx) (n + 1) := by
  unfold oNested
  split
  · exact h.up
  · split
    · exact h.up
    · split <;> exact h.up
