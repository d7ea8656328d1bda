-- WORLD
section Fill
variable {l : Launch} {b0 : Nat → Prop} {ad : Ads} {cn : Nat → Nat} {M : Mem}
theorem c_J7_fillN (hl : l.stackTraces = false) {k i n : Nat} (hk : IA k n) (hin : inD cn k i) (v : Int) : Con l b0 yJ7_fill_53178 cJ7_fill_53178 4 none 1 0 0 [aO k i, aI v] ad cn M (fun r M' => Fr (fun k' i' => k' = k ∧ i' = i) M M' ∧ M'.2 = M.2 ∧ (∀ j, j < n → M'.1 k i j = v) ∧ (∀ j, n ≤ j → M'.1 k i j = M.1 k i j) ∧ r = none) noX := by
  have hn := hk.1
  refine Con.of hl pl_J7 (Nat.le_of_ble_eq_true rfl) ?_
  intro D cA p e s m args below meth c C hr
  have loop : ∀ (d q : Nat) (M1 : Mem), q + d = n → Fr (fun k' i' => k' = k ∧ i' = i) M M1 → M1.2 = M.2 → (∀ j, j < q → M1.1 k i j = v) → (∀ j, n ≤ j → M1.1 k i j = M.1 k i j) → Wm p l e (rmd 1 0 0) s m args below meth c 4 D cA b0 0 0 (vx_MQ below (mQ D cA b0 ad cn (fun r M' => Fr (fun k' i' => k' = k ∧ i' = i) M M' ∧ M'.2 = M.2 ∧ (∀ j, j < n → M'.1 k i j = v) ∧ (∀ j, n ≤ j → M'.1 k i j = M.1 k i j) ∧ r = none)) (mX D cA b0 ad cn noX) args s 0 0 b0) 5 [(0, aO k i), (1, aI v), (2, aI q), (3, aI n)] [] ad cn M1 := by
    intro d
    induction d with
    | zero =>
      intro q M1 hq hF hr2 hj hj2
      refine w_iload_n C dJ7_fill_53178_5 rfl ?_
      refine w_iload_n C dJ7_fill_53178_6 rfl ?_
      refine w_icmp_ge C dJ7_fill_53178_7 (by omega) (by omega) (fun h7 => ?_) (fun h7 => ?_)
      · refine w_vret C hr dJ7_fill_53178_20 (⟨hF, hr2, fun j h => hj j (by omega), hj2, rfl⟩) (by decide) (by decide)
      · omega
    | succ d ih =>
      intro q M1 hq hF hr2 hj hj2
      refine w_iload_n C dJ7_fill_53178_5 rfl ?_
      refine w_iload_n C dJ7_fill_53178_6 rfl ?_
      refine w_icmp_ge C dJ7_fill_53178_7 (by omega) (by omega) (fun h7 => ?_) (fun h7 => ?_)
      · omega
      · refine w_aload_n C dJ7_fill_53178_10 rfl ?_
        refine w_iload_n C dJ7_fill_53178_11 rfl ?_
        refine w_iload_n C dJ7_fill_53178_12 rfl ?_
        refine w_iast C dJ7_fill_53178_13 (by first | assumption | exact Nat.zero_lt_one | exact Nat.zero_lt_two | exact Nat.one_lt_two) hk (by omega) ?_
        refine w_iinc C dJ7_fill_53178_14 rfl (by decide) ?_
        refine w_goto C dJ7_fill_53178_17 ?_
        refine Wm.lsub (lv' := [(0, aO k i), (1, aI v), (2, aI ((q + 1 : Nat) : Int)), (3, aI n)]) ⟨rfl, rfl, rfl, rfl, trivial⟩ (ih (q + 1) _ (by omega) (hF.uI ⟨rfl, rfl⟩) hr2 (fun j h => ?_) (fun j h => ?_))
        · rw [uI_get]
          split
          · rfl
          · rename_i h9
            refine hj j ?_
            have : j ≠ q := fun h8 => h9 ⟨rfl, rfl, h8⟩
            omega
        · rw [uI_get, if_neg (fun h9 => by have := h9.2.2; omega)]
          exact hj2 j h
  refine w_iconst C dJ7_fill_53178_0 ?_
  refine w_istore_n C dJ7_fill_53178_1 (by decide) ?_
  refine w_aload_n C dJ7_fill_53178_2 rfl ?_
  refine w_alen C dJ7_fill_53178_3 hin (Or.inl hk) ?_
  refine w_istore_n C dJ7_fill_53178_4 (by decide) ?_
  exact Wm.lsub (lv' := [(0, aO k i), (1, aI v), (2, aI ((0 : Nat) : Int)), (3, aI n)]) ⟨rfl, rfl, rfl, rfl, trivial⟩ (loop n 0 M (Nat.zero_add _) Fr.rf rfl (fun j h => absurd h (Nat.not_lt_zero j)) (fun j _ => rfl))
end Fill
