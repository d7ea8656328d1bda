-- MODEL
/-! the model's empty marker, from any memory -/
section Mo
variable {l : Launch} {b0 : Nat → Prop} {ad : Ads} {M : Mem}
theorem c_X7_emptiesN (hl : l.stackTraces = false) : Con l b0 yX7_empties cX7_empties 2 none 1 0 0 [aO 40 0] ad cntM M (fun r M' => (∀ s, s ≠ 17 → s ≠ 18 → M'.1 40 0 s = M.1 40 0 s) ∧ (M'.1 40 0 17 = 0 ∧ M'.1 40 0 18 = 0) ∧ M'.2.2.1 = M.2.2.1 ∧ (∀ k, k ≠ 40 → ¬ (58 ≤ k ∧ k ≤ 60) → ∀ j, M'.1 k 0 j = M.1 k 0 j) ∧ (∀ j, j < 720 → M'.1 58 0 j = -1) ∧ (∀ g, g < 4 → M'.1 60 0 g = 0) ∧ r = none) noX := by
  refine Con.of hl pl_X7 (Nat.le_of_ble_eq_true rfl) ?_
  intro D cA p e s m args below meth c C hr
  have L24 : ∀ (d n : Nat) (M1 : Mem), n + d = 4 → ((∀ s, M1.1 40 0 s = M.1 40 0 s) ∧ M1.2.2.1 = M.2.2.1 ∧ (∀ k, k ≠ 40 → ¬ (58 ≤ k ∧ k ≤ 60) → ∀ j, M1.1 k 0 j = M.1 k 0 j)) → (∀ j, j < 720 → M1.1 58 0 j = -1) → (∀ j, j < n → M1.1 60 0 j = 0) → Wm p l e (rmd 1 0 0) s m args below meth c 2 D cA b0 0 0 (vx_MQ below (mQ D cA b0 ad cntM (fun r M' => (∀ s, s ≠ 17 → s ≠ 18 → M'.1 40 0 s = M.1 40 0 s) ∧ (M'.1 40 0 17 = 0 ∧ M'.1 40 0 18 = 0) ∧ M'.2.2.1 = M.2.2.1 ∧ (∀ k, k ≠ 40 → ¬ (58 ≤ k ∧ k ≤ 60) → ∀ j, M'.1 k 0 j = M.1 k 0 j) ∧ (∀ j, j < 720 → M'.1 58 0 j = -1) ∧ (∀ g, g < 4 → M'.1 60 0 g = 0) ∧ r = none)) (mX D cA b0 ad cntM noX) args s 0 0 b0) 24 [(0, aO 40 0), (1, aI n)] [] ad cntM M1 := by
    intro d
    induction d with
    | zero =>
      intro n M1 hn hF h58 h60
      refine w_iload_n C dX7_empties_24 rfl ?_
      refine w_iconst C dX7_empties_25 ?_
      refine w_icmp_ge C dX7_empties_26 (by omega) (by omega) (fun h26 => ?_) (fun h26 => ?_)
      · refine w_aload_n C dX7_empties_49 rfl ?_
        refine w_iconst C dX7_empties_50 ?_
        refine p_X7_112 C dX7_empties_51 (by first | assumption | exact Nat.zero_lt_one | exact Nat.zero_lt_two | exact Nat.one_lt_two) ?_
        refine w_aload_n C dX7_empties_54 rfl ?_
        refine w_iconst C dX7_empties_55 ?_
        refine p_X7_115 C dX7_empties_56 (by first | assumption | exact Nat.zero_lt_one | exact Nat.zero_lt_two | exact Nat.one_lt_two) ?_
        refine w_vret C hr dX7_empties_59 (by
            refine ⟨fun s h1 h2 => ?_, ⟨rfl, rfl⟩, hF.2.1, fun k h1 h2 j => ?_, fun j hj => ?_, fun g hg => ?_, rfl⟩
            · rw [uI_get, if_neg (by omega), uI_get, if_neg (by omega)]; exact hF.1 s
            · rw [uI_get, if_neg (by omega), uI_get, if_neg (by omega)]; exact hF.2.2 k h1 h2 j
            · rw [uI_get, if_neg (by omega), uI_get, if_neg (by omega)]; exact h58 j hj
            · rw [uI_get, if_neg (by omega), uI_get, if_neg (by omega)]; exact h60 g (by omega)) (by decide) (by decide)
      · omega
    | succ d ih =>
      intro n M1 hn hF h58 h60
      refine w_iload_n C dX7_empties_24 rfl ?_
      refine w_iconst C dX7_empties_25 ?_
      refine w_icmp_ge C dX7_empties_26 (by omega) (by omega) (fun h26 => ?_) (fun h26 => ?_)
      · omega
      · refine w_aload_n C dX7_empties_29 rfl ?_
        refine g_X7_67 C dX7_empties_30 (by first | assumption | exact Nat.zero_lt_one | exact Nat.zero_lt_two | exact Nat.one_lt_two) ?_
        refine w_iload_n C dX7_empties_33 rfl ?_
        refine w_iconst C dX7_empties_34 ?_
        refine w_iastN (j := n) C dX7_empties_35 (by first | assumption | exact Nat.zero_lt_one | exact Nat.zero_lt_two | exact Nat.one_lt_two) IA_59 (by omega) (by omega) ?_
        refine w_aload_n C dX7_empties_36 rfl ?_
        refine g_X7_70 C dX7_empties_37 (by first | assumption | exact Nat.zero_lt_one | exact Nat.zero_lt_two | exact Nat.one_lt_two) ?_
        refine w_iload_n C dX7_empties_40 rfl ?_
        refine w_iconst C dX7_empties_41 ?_
        refine w_iastN (j := n) C dX7_empties_42 (by first | assumption | exact Nat.zero_lt_one | exact Nat.zero_lt_two | exact Nat.one_lt_two) IA_60 (by omega) (by omega) ?_
        refine w_iinc C dX7_empties_43 rfl (by decide) ?_
        refine w_goto C dX7_empties_46 ?_
        refine Wm.lsub (lv' := [(0, aO 40 0), (1, aI ((n + 1 : Nat) : Int))]) ⟨rfl, rfl, trivial⟩ (ih (n + 1) _ (by omega) ⟨fun s => by rw [uI_get, if_neg (by omega), uI_get, if_neg (by omega)]; exact hF.1 s, hF.2.1, fun k h1 h2 j => by rw [uI_get, if_neg (by omega), uI_get, if_neg (by omega)]; exact hF.2.2 k h1 h2 j⟩ (fun j hj => by rw [uI_get, if_neg (by omega), uI_get, if_neg (by omega)]; exact h58 j hj) (fun j hj => ?_))
        rw [uI_get]
        split
        · rfl
        · rw [uI_get, if_neg (by omega)]; exact h60 j (by omega)
  have L2 : ∀ (d n : Nat) (M1 : Mem), n + d = 720 → ((∀ s, M1.1 40 0 s = M.1 40 0 s) ∧ M1.2.2.1 = M.2.2.1 ∧ (∀ k, k ≠ 40 → ¬ (58 ≤ k ∧ k ≤ 60) → ∀ j, M1.1 k 0 j = M.1 k 0 j)) → (∀ j, j < n → M1.1 58 0 j = -1) → Wm p l e (rmd 1 0 0) s m args below meth c 2 D cA b0 0 0 (vx_MQ below (mQ D cA b0 ad cntM (fun r M' => (∀ s, s ≠ 17 → s ≠ 18 → M'.1 40 0 s = M.1 40 0 s) ∧ (M'.1 40 0 17 = 0 ∧ M'.1 40 0 18 = 0) ∧ M'.2.2.1 = M.2.2.1 ∧ (∀ k, k ≠ 40 → ¬ (58 ≤ k ∧ k ≤ 60) → ∀ j, M'.1 k 0 j = M.1 k 0 j) ∧ (∀ j, j < 720 → M'.1 58 0 j = -1) ∧ (∀ g, g < 4 → M'.1 60 0 g = 0) ∧ r = none)) (mX D cA b0 ad cntM noX) args s 0 0 b0) 2 [(0, aO 40 0), (1, aI n)] [] ad cntM M1 := by
    intro d
    induction d with
    | zero =>
      intro n M1 hn hF h58
      refine w_iload_n C dX7_empties_2 rfl ?_
      refine w_sipush (v := 720) C dX7_empties_3 rfl ?_
      refine w_icmp_ge C dX7_empties_6 (by omega) (by omega) (fun h6 => ?_) (fun h6 => ?_)
      · refine w_iconst C dX7_empties_22 ?_
        refine w_istore_n C dX7_empties_23 (by decide) ?_
        exact Wm.lsub (lv' := [(0, aO 40 0), (1, aI ((0 : Nat) : Int))]) ⟨rfl, rfl, trivial⟩ (L24 4 0 M1 (by omega) hF (fun j hj => h58 j (by omega)) (fun j hj => absurd hj (Nat.not_lt_zero j)))
      · omega
    | succ d ih =>
      intro n M1 hn hF h58
      refine w_iload_n C dX7_empties_2 rfl ?_
      refine w_sipush (v := 720) C dX7_empties_3 rfl ?_
      refine w_icmp_ge C dX7_empties_6 (by omega) (by omega) (fun h6 => ?_) (fun h6 => ?_)
      · omega
      · refine w_aload_n C dX7_empties_9 rfl ?_
        refine g_X7_64 C dX7_empties_10 (by first | assumption | exact Nat.zero_lt_one | exact Nat.zero_lt_two | exact Nat.one_lt_two) ?_
        refine w_iload_n C dX7_empties_13 rfl ?_
        refine w_iconst C dX7_empties_14 ?_
        refine w_iastN (j := n) C dX7_empties_15 (by first | assumption | exact Nat.zero_lt_one | exact Nat.zero_lt_two | exact Nat.one_lt_two) IA_58 (by omega) (by omega) ?_
        refine w_iinc C dX7_empties_16 rfl (by decide) ?_
        refine w_goto C dX7_empties_19 ?_
        refine Wm.lsub (lv' := [(0, aO 40 0), (1, aI ((n + 1 : Nat) : Int))]) ⟨rfl, rfl, trivial⟩ (ih (n + 1) _ (by omega) ⟨fun s => by rw [uI_get, if_neg (by omega)]; exact hF.1 s, hF.2.1, fun k h1 h2 j => by rw [uI_get, if_neg (by omega)]; exact hF.2.2 k h1 h2 j⟩ (fun j hj => ?_))
        rw [uI_get]
        split
        · rfl
        · exact h58 j (by omega)
  refine w_iconst C dX7_empties_0 ?_
  refine w_istore_n C dX7_empties_1 (by decide) ?_
  exact Wm.lsub (lv' := [(0, aO 40 0), (1, aI ((0 : Nat) : Int))]) ⟨rfl, rfl, trivial⟩ (L2 720 0 M (by omega) ⟨fun _ => rfl, rfl, fun _ _ _ _ => rfl⟩ (fun j hj => absurd hj (Nat.not_lt_zero j)))
end Mo
