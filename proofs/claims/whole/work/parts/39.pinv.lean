/-! the pieces of a marker: laying one, taking one off -/
theorem clo_no {S : Sg} {P : List Pc} {k : Nat} : clo S P k = -1 ↔ ∀ q ∈ P, cv S q (k / 12) (k % 12) = false := by
  unfold clo
  cases hf : P.find? (fun p => cv S p (k / 12) (k % 12)) with
  | none =>
    rw [List.find?_eq_none] at hf
    exact ⟨fun _ q hq => Bool.eq_false_iff.mpr (hf q hq), fun _ => rfl⟩
  | some q =>
    have h1 := List.mem_of_find?_eq_some hf
    have h2 := List.find?_some hf
    constructor
    · intro h
      have h' : (pNum q : Int) = -1 := h
      omega
    · intro h
      rw [h q h1] at h2
      cases h2
theorem clo_yes {S : Sg} {P : List Pc} (hd : P.Pairwise (fun p q => pNum p < pNum q ∧ ∀ r c, ¬ (cv S p r c = true ∧ cv S q r c = true))) {q : Pc} (hq : q ∈ P) {k : Nat} (hk : cv S q (k / 12) (k % 12) = true) : clo S P k = pNum q := by
  induction P with
  | nil => cases hq
  | cons a P ih =>
    rw [List.pairwise_cons] at hd
    unfold clo
    rw [List.find?_cons]
    rcases List.mem_cons.mp hq with rfl | h
    · rw [hk]
    · have : cv S a (k / 12) (k % 12) = false := by
        cases hx : cv S a (k / 12) (k % 12) with
        | false => rfl
        | true => exact absurd ⟨hx, hk⟩ ((hd.1 q h).2 _ _)
      rw [this]
      exact ih hd.2 h
theorem clo_app {S : Sg} {P : List Pc} {p : Pc} {k : Nat} (h : cv S p (k / 12) (k % 12) = true → clo S P k = -1) : clo S (P ++ [p]) k = if cv S p (k / 12) (k % 12) = true then (pNum p : Int) else clo S P k := by
  by_cases hc : cv S p (k / 12) (k % 12) = true
  · rw [if_pos hc]
    have h1 := clo_no.mp (h hc)
    unfold clo
    rw [List.find?_append, List.find?_eq_none.mpr (fun q hq => by rw [h1 q hq]; decide), List.find?_cons, hc]
    rfl
  · rw [if_neg hc]
    unfold clo
    rw [List.find?_append, List.find?_cons, Bool.eq_false_iff.mpr hc]
    cases P.find? (fun p => cv S p (k / 12) (k % 12)) <;> rfl
/-- what stands when nothing hinders -/
theorem reason_free {S : Sg} {P : List Pc} {j t w : Nat} {row col : Int} (h : reasonS S P j t w row col = 45) : 0 < szS S j ∧ mayT S j t ∧ ¬ (w = 1 ∧ (paS S j = 0 ∨ fdS S = 1)) ∧ ((0 ≤ row ∧ row + hgt (dB S j) t w ≤ 60) ∧ 0 ≤ col ∧ col + wid (dB S j) t w ≤ colsS S) ∧ ¬ anyC (dB S j) t w (fun r c => badS S (row.toNat + r) (col.toNat + c)) = true ∧ ¬ anyC (dB S j) t w (fun r c => decide (clo S P (12 * (row.toNat + r) + (col.toNat + c)) ≠ -1)) = true ∧ ¬ strp S P j t w row = true := by
  unfold reasonS at h
  by_cases h1 : szS S j = 0
  · rw [if_pos h1] at h; omega
  · rw [if_neg h1] at h
    by_cases h2 : mayT S j t
    · rw [if_neg (fun q => q h2)] at h
      by_cases h3 : w = 1 ∧ (paS S j = 0 ∨ fdS S = 1)
      · rw [if_pos h3] at h; omega
      · rw [if_neg h3] at h
        by_cases h4 : offS S j t w row col
        · rw [if_pos h4] at h; omega
        · rw [if_neg h4] at h
          by_cases h5 : anyC (dB S j) t w (fun r c => badS S (row.toNat + r) (col.toNat + c)) = true
          · rw [if_pos h5] at h; omega
          · rw [if_neg h5] at h
            by_cases h6 : anyC (dB S j) t w (fun r c => decide (clo S P (12 * (row.toNat + r) + (col.toNat + c)) ≠ -1)) = true
            · rw [if_pos h6] at h; omega
            · rw [if_neg h6] at h
              by_cases h7 : strp S P j t w row = true
              · rw [if_pos h7] at h; omega
              · exact ⟨by omega, h2, h3, Decidable.not_not.mp h4, h5, h6, h7⟩
    · rw [if_pos h2] at h; omega
theorem cv_free {S : Sg} {P : List Pc} (hG : GInv S) {nx j t w row col : Nat} (h : reasonS S P j t w row col = 45) {k : Nat} (hk : cv S (nx, j, t, row, col, w) (k / 12) (k % 12) = true) : clo S P k = -1 := by
  obtain ⟨f1, f2, f3, ⟨f4, f4', f5⟩, f6, f7, f8⟩ := reason_free h
  obtain ⟨r', c', e1, e2, e3⟩ := cv_iff.mp hk
  refine Decidable.byContradiction fun h9 => f7 (anyC_iff.mpr ⟨r', c', e3, ?_⟩)
  rw [Int.toNat_natCast, Int.toNat_natCast, decide_eq_true_iff]
  have e1' : k / 12 = row + r' := e1
  have e2' : k % 12 = col + c' := e2
  rw [show 12 * (row + r') + (col + c') = k by omega]
  exact h9
theorem PInv.put {S : Sg} {P : List Pc} {nx : Nat} (hG : GInv S) (hI : PInv S P nx) {j t w row col : Nat} (hj : j < nsS S) (ht : t < 4) (hw : w ≤ 1) (h : reasonS S P j t w row col = 45) : PInv S (P ++ [(nx, j, t, row, col, w)]) (nx + 1) := by
  obtain ⟨i1, i2, i3⟩ := hI
  obtain ⟨f1, f2, f3, ⟨f4, f4', f5⟩, f6, f7, f8⟩ := reason_free h
  have hfd := hG.2.2.1
  refine ⟨fun p hp => ?_, ?_, fun p hp q hq hpq hz hs => ?_⟩
  · rcases List.mem_append.mp hp with hp | hp
    · obtain ⟨b1, b2', b3, b4, b5, b6, b7⟩ := i1 p hp
      exact ⟨b1, b2', b3, b4, b5, by omega, b7⟩
    · rw [List.mem_singleton.mp hp]
      exact ⟨hj, f1, ht, hw, fun q => by show w = 0; omega, Nat.lt_succ_self nx, f4.2, f5⟩
  · rw [List.pairwise_append]
    refine ⟨i2, List.pairwise_singleton _ _, fun a ha b hb => ?_⟩
    rw [List.mem_singleton.mp hb]
    refine ⟨(i1 a ha).2.2.2.2.2.1, fun r c hrc => ?_⟩
    have hd := cv_dom hrc.2
    have hc12 := cols12 hG
    have hc : c < 12 := by
      have h9 : (c : Int) < col + wid (dB S j) t w := hd.2.2.2
      omega
    have e12 : (12 * r + c) / 12 = r ∧ (12 * r + c) % 12 = c := by omega
    have h1 := cv_free (k := 12 * r + c) hG h (by rw [e12.1, e12.2]; exact hrc.2)
    have h2 := clo_no.mp h1 a ha
    rw [e12.1, e12.2, hrc.1] at h2
    cases h2
  · have key : ∀ a ∈ P, gpS S (pShp a) = gpS S j → gpS S j ≠ 0 → remP S a = remP S (nx, j, t, row, col, w) := fun a ha e ez => by
      refine Decidable.byContradiction fun h9 => f8 (strp_iff.mpr ⟨ez, a, ha, e, h9⟩)
    rcases List.mem_append.mp hp with hp | hp
    · rcases List.mem_append.mp hq with hq | hq
      · exact i3 p hp q hq hpq hz hs
      · rw [List.mem_singleton.mp hq] at hpq ⊢
        exact key p hp hpq (by rw [hpq] at hz; exact hz)
    · rcases List.mem_append.mp hq with hq | hq
      · rw [List.mem_singleton.mp hp] at hpq hz ⊢
        exact (key q hq hpq.symm hz).symm
      · rw [List.mem_singleton.mp hp, List.mem_singleton.mp hq]
theorem inGr_app {S : Sg} {P : List Pc} {p : Pc} {g : Nat} : inGr S (P ++ [p]) g = inGr S P g + if gpS S (pShp p) = g then 1 else 0 := by
  unfold inGr
  rw [List.countP_append, List.countP_singleton]
  by_cases h : gpS S (pShp p) = g
  · rw [if_pos h, if_pos (beq_iff_eq.mpr h)]
  · rw [if_neg h, if_neg (fun q => h (beq_iff_eq.mp q))]
/-- without the piece at slot i -/
theorem mem_erase_lt {P : List Pc} {i : Nat} {q : Pc} (h : q ∈ P.eraseIdx i) : q ∈ P := List.mem_of_mem_eraseIdx h
theorem PInv.erase {S : Sg} {P : List Pc} {nx : Nat} (hI : PInv S P nx) (i : Nat) : PInv S (P.eraseIdx i) nx := by
  obtain ⟨i1, i2, i3⟩ := hI
  exact ⟨fun p hp => i1 p (mem_erase_lt hp), i2.sublist (List.eraseIdx_sublist P i), fun p hp q hq => i3 p (mem_erase_lt hp) q (mem_erase_lt hq)⟩
theorem clo_erase {S : Sg} {P : List Pc} (hd : P.Pairwise (fun p q => pNum p < pNum q ∧ ∀ r c, ¬ (cv S p r c = true ∧ cv S q r c = true))) {i : Nat} {q : Pc} (hq : P[i]? = some q) (k : Nat) : clo S (P.eraseIdx i) k = if cv S q (k / 12) (k % 12) = true then -1 else clo S P k := by
  have hd' := hd.sublist (List.eraseIdx_sublist P i)
  by_cases hc : cv S q (k / 12) (k % 12) = true
  · rw [if_pos hc, clo_no]
    intro a ha
    obtain ⟨i', hi', e⟩ := List.mem_eraseIdx_iff_getElem?.mp ha
    cases hx : cv S a (k / 12) (k % 12) with
    | false => rfl
    | true =>
      exfalso
      obtain ⟨h1, e1⟩ := List.getElem?_eq_some_iff.mp hq
      obtain ⟨h2, e2⟩ := List.getElem?_eq_some_iff.mp e
      rw [List.pairwise_iff_getElem] at hd
      rcases Nat.lt_trichotomy i i' with h | h | h
      · have := (hd i i' h1 h2 h).2 (k / 12) (k % 12)
        rw [e1, e2] at this
        exact this ⟨hc, hx⟩
      · exact hi' h.symm
      · have := (hd i' i h2 h1 h).2 (k / 12) (k % 12)
        rw [e1, e2] at this
        exact this ⟨hx, hc⟩
  · rw [if_neg hc]
    by_cases h9 : clo S P k = -1
    · rw [h9, clo_no]
      exact fun a ha => clo_no.mp h9 a (mem_erase_lt ha)
    · obtain ⟨a, ha, e⟩ : ∃ a ∈ P, cv S a (k / 12) (k % 12) = true := by
        refine Decidable.byContradiction fun h8 => h9 (clo_no.mpr fun a ha => ?_)
        cases hx : cv S a (k / 12) (k % 12) with
        | false => rfl
        | true => exact absurd ⟨a, ha, hx⟩ h8
      obtain ⟨i', e'⟩ := List.mem_iff_getElem?.mp ha
      have hne : i' ≠ i := by
        rintro rfl
        rw [e'] at hq
        cases hq
        exact hc e
      rw [clo_yes hd ha e, clo_yes hd' (List.mem_eraseIdx_iff_getElem?.mpr ⟨i', hne, e'⟩) e]
theorem inGr_erase {S : Sg} {P : List Pc} {i : Nat} {q : Pc} (hq : P[i]? = some q) (g : Nat) : inGr S P g = inGr S (P.eraseIdx i) g + if gpS S (pShp q) = g then 1 else 0 := by
  unfold inGr
  obtain ⟨h1, e1⟩ := List.getElem?_eq_some_iff.mp hq
  have e : P = P.take i ++ q :: P.drop (i + 1) := by
    rw [← e1, ← List.drop_eq_getElem_cons h1, List.take_append_drop]
  rw [List.eraseIdx_eq_take_drop_succ, List.countP_append]
  conv => lhs; rw [e, List.countP_append, List.countP_cons]
  by_cases h : gpS S (pShp q) = g
  · rw [if_pos h, if_pos (beq_iff_eq.mpr h)]
    omega
  · rw [if_neg h, if_neg (fun q => h (beq_iff_eq.mp q))]
    omega
