/-! the small functions of CuttingRoom over numbers and rows of numbers -/
def b2 (p : Prop) [Decidable p] : Int := if p then 1 else 0
theorem b2_t {p : Prop} [Decidable p] (h : p) : b2 p = 1 := if_pos h
theorem b2_f {p : Prop} [Decidable p] (h : ¬ p) : b2 p = 0 := if_neg h
theorem b2_01 (p : Prop) [Decidable p] : b2 p = 0 ∨ b2 p = 1 := by
  by_cases h : p
  · exact Or.inr (b2_t h)
  · exact Or.inl (b2_f h)
abbrev rd (M : Mem) (k i n : Nat) (z : Int) : Int := if 0 ≤ z ∧ z < n then M.1 k i z.toNat else 0
abbrev wr (M : Mem) (k i n : Nat) (z v : Int) : Mem := if 0 ≤ z ∧ z < n then uI M k i z.toNat v else M
abbrev noX : PX := fun _ _ => False
def fstB (b : Nat) : Nat := if b.testBit 0 then 0 else if b.testBit 1 then 1 else if b.testBit 2 then 2 else if b.testBit 3 then 3 else if b.testBit 4 then 4 else 5
def endB (b : Nat) : Nat := if b.testBit 4 then 5 else if b.testBit 3 then 4 else if b.testBit 2 then 3 else if b.testBit 1 then 2 else if b.testBit 0 then 1 else 0
section Small
variable {l : Launch} {b0 : Nat → Prop} {ad : Ads} {ns nt : Nat} {M : Mem}
theorem c_X6_entry (hl : l.stackTraces = false) {k i n : Nat} (hk : IA k n) (hin : inD (cnt ns nt) k i) (z : Int) (hz : -2147483648 ≤ z ∧ z ≤ 2147483647) : Con l b0 yX6_entry cX6_entry 2 (some .int) 1 0 0 [aO k i, aI z] ad (cnt ns nt) M (fun r M' => M' = M ∧ r = some (aI (rd M k i n z))) noX := by
  have hn := hk.1
  refine Con.of hl pl_X6 (Nat.le_of_ble_eq_true rfl) ?_
  intro D cA p e s m args below meth c C hr
  refine w_iload_n C dX6_entry_0 rfl ?_
  refine w_if_lt C dX6_entry_1 (by omega) (fun h1 => ?_) (fun h1 => ?_)
  · refine w_iconst C dX6_entry_16 ?_
    refine w_iret C hr dX6_entry_17 rfl (⟨rfl, by rw [rd, if_neg (by omega)]⟩) (by decide) (by decide)
  · refine w_iload_n C dX6_entry_4 rfl ?_
    refine w_aload_n C dX6_entry_5 rfl ?_
    refine w_alen C dX6_entry_6 hin (Or.inl hk) ?_
    refine w_icmp_ge C dX6_entry_7 (by omega) (by omega) (fun h7 => ?_) (fun h7 => ?_)
    · refine w_iconst C dX6_entry_16 ?_
      refine w_iret C hr dX6_entry_17 rfl (⟨rfl, by rw [rd, if_neg (by omega)]⟩) (by decide) (by decide)
    · refine w_aload_n C dX6_entry_10 rfl ?_
      refine w_iload_n C dX6_entry_11 rfl ?_
      refine w_iald C dX6_entry_12 (by first | assumption | exact Nat.zero_lt_one | exact Nat.zero_lt_two | exact Nat.one_lt_two) hk (by omega) ?_
      refine w_goto C dX6_entry_13 ?_
      refine w_iret C hr dX6_entry_17 rfl (⟨rfl, by rw [rd, if_pos (by omega)]⟩) (by decide) (by decide)
theorem c_X6_store (hl : l.stackTraces = false) {k i n : Nat} (hk : IA k n) (hin : inD (cnt ns nt) k i) (z v : Int) (hz : -2147483648 ≤ z ∧ z ≤ 2147483647) : Con l b0 yX6_store cX6_store 3 none 1 0 0 [aO k i, aI z, aI v] ad (cnt ns nt) M (fun r M' => M' = wr M k i n z v ∧ r = none) noX := by
  have hn := hk.1
  refine Con.of hl pl_X6 (Nat.le_of_ble_eq_true rfl) ?_
  intro D cA p e s m args below meth c C hr
  refine w_iload_n C dX6_store_0 rfl ?_
  refine w_if_lt C dX6_store_1 (by omega) (fun h1 => ?_) (fun h1 => ?_)
  · refine w_vret C hr dX6_store_14 (⟨by rw [wr, if_neg (by omega)], rfl⟩) (by decide) (by decide)
  · refine w_iload_n C dX6_store_4 rfl ?_
    refine w_aload_n C dX6_store_5 rfl ?_
    refine w_alen C dX6_store_6 hin (Or.inl hk) ?_
    refine w_icmp_ge C dX6_store_7 (by omega) (by omega) (fun h7 => ?_) (fun h7 => ?_)
    · refine w_vret C hr dX6_store_14 (⟨by rw [wr, if_neg (by omega)], rfl⟩) (by decide) (by decide)
    · refine w_aload_n C dX6_store_10 rfl ?_
      refine w_iload_n C dX6_store_11 rfl ?_
      refine w_iload_n C dX6_store_12 rfl ?_
      refine w_iast C dX6_store_13 (by first | assumption | exact Nat.zero_lt_one | exact Nat.zero_lt_two | exact Nat.one_lt_two) hk (by omega) ?_
      refine w_vret C hr dX6_store_14 (⟨by rw [wr, if_pos (by omega)], rfl⟩) (by decide) (by decide)
theorem c_X6_hasBit (hl : l.stackTraces = false) (b k : Nat) (hb : b < 2147483648) (hk : k < 32) : Con l b0 yX6_hasBit cX6_hasBit 2 (some .boolean) 1 0 0 [aI b, aI k] ad (cnt ns nt) M (fun r M' => M' = M ∧ r = some (aI (b2 (b.testBit k = true)))) noX := by
  have eb : (b.testBit k = true) ↔ ¬ ((b / 2 ^ k &&& 1 : Nat) : Int) = 0 := by
    rw [Nat.testBit_eq_decide_div_mod_eq, decide_eq_true_iff, Nat.and_one_is_mod]
    omega
  have hlt : b / 2 ^ k ≤ b := Nat.div_le_self b _
  refine Con.of hl pl_X6 (Nat.le_of_ble_eq_true rfl) ?_
  intro D cA p e s m args below meth c C hr
  refine w_iload_n C dX6_hasBit_0 rfl ?_
  refine w_iload_n C dX6_hasBit_1 rfl ?_
  refine w_ishr C dX6_hasBit_2 hb hk ?_
  refine w_iconst C dX6_hasBit_3 ?_
  refine w_iand (y := 1) C dX6_hasBit_4 (by omega) (by omega) ?_
  have hle : b / 2 ^ k &&& 1 ≤ 1 := Nat.and_le_right
  refine w_if_eq C dX6_hasBit_5 (by omega) (fun h5 => ?_) (fun h5 => ?_)
  · refine w_iconst C dX6_hasBit_12 ?_
    refine w_iret C hr dX6_hasBit_13 (by first | exact narrow_z (b2_01 _) | exact narrow_z (by omega)) (⟨rfl, by rw [b2_f (fun q => (eb.mp q) h5)]⟩) (by decide) (by decide)
  · refine w_iconst C dX6_hasBit_8 ?_
    refine w_goto C dX6_hasBit_9 ?_
    refine w_iret C hr dX6_hasBit_13 (by first | exact narrow_z (b2_01 _) | exact narrow_z (by omega)) (⟨rfl, by rw [b2_t (eb.mpr h5)]⟩) (by decide) (by decide)
theorem c_X6_isWithin (hl : l.stackTraces = false) (v a b : Int) (hv : -2147483648 ≤ v ∧ v ≤ 2147483647) (ha : -2147483648 ≤ a ∧ a ≤ 2147483647) (hb : -2147483648 ≤ b ∧ b ≤ 2147483647) : Con l b0 yX6_isWithin cX6_isWithin 3 (some .boolean) 1 0 0 [aI v, aI a, aI b] ad (cnt ns nt) M (fun r M' => M' = M ∧ r = some (aI (b2 (a ≤ v ∧ v ≤ b)))) noX := by
  refine Con.of hl pl_X6 (Nat.le_of_ble_eq_true rfl) ?_
  intro D cA p e s m args below meth c C hr
  refine w_iload_n C dX6_isWithin_0 rfl ?_
  refine w_iload_n C dX6_isWithin_1 rfl ?_
  refine w_icmp_lt C dX6_isWithin_2 (by omega) (by omega) (fun h2 => ?_) (fun h2 => ?_)
  · refine w_iconst C dX6_isWithin_14 ?_
    refine w_iret C hr dX6_isWithin_15 (by first | exact narrow_z (b2_01 _) | exact narrow_z (by omega)) (⟨rfl, by rw [b2_f (by omega)]⟩) (by decide) (by decide)
  · refine w_iload_n C dX6_isWithin_5 rfl ?_
    refine w_iload_n C dX6_isWithin_6 rfl ?_
    refine w_icmp_gt C dX6_isWithin_7 (by omega) (by omega) (fun h7 => ?_) (fun h7 => ?_)
    · refine w_iconst C dX6_isWithin_14 ?_
      refine w_iret C hr dX6_isWithin_15 (by first | exact narrow_z (b2_01 _) | exact narrow_z (by omega)) (⟨rfl, by rw [b2_f (by omega)]⟩) (by decide) (by decide)
    · refine w_iconst C dX6_isWithin_10 ?_
      refine w_goto C dX6_isWithin_11 ?_
      refine w_iret C hr dX6_isWithin_15 (by first | exact narrow_z (b2_01 _) | exact narrow_z (by omega)) (⟨rfl, by rw [b2_t (by omega)]⟩) (by decide) (by decide)
theorem c_X6_kindOf (hl : l.stackTraces = false) (v z : Int) (hz : z = 0 ∨ z = 1) : Con l b0 yX6_kindOf cX6_kindOf 2 (some .int) 1 0 0 [aI v, aI z] ad (cnt ns nt) M (fun r M' => M' = M ∧ r = some (aI (v * 2 + z))) noX := by
  refine Con.of hl pl_X6 (Nat.le_of_ble_eq_true rfl) ?_
  intro D cA p e s m args below meth c C hr
  refine w_iload_n C dX6_kindOf_0 rfl ?_
  refine w_iconst C dX6_kindOf_1 ?_
  refine w_imul C dX6_kindOf_2 ?_
  refine w_iload_n C dX6_kindOf_3 rfl ?_
  refine w_if_eq C dX6_kindOf_4 (by omega) (fun h4 => ?_) (fun h4 => ?_)
  · refine w_iconst C dX6_kindOf_11 ?_
    refine w_iadd C dX6_kindOf_12 ?_
    refine w_iret C hr dX6_kindOf_13 rfl (⟨rfl, by rw [h4]⟩) (by decide) (by decide)
  · refine w_iconst C dX6_kindOf_7 ?_
    refine w_goto C dX6_kindOf_8 ?_
    refine w_iadd C dX6_kindOf_12 ?_
    refine w_iret C hr dX6_kindOf_13 rfl (⟨rfl, by rw [show z = 1 by omega]⟩) (by decide) (by decide)
theorem c_X6_firstBit (hl : l.stackTraces = false) (b : Nat) (hb : b < 2147483648) : Con l b0 yX6_firstBit cX6_firstBit 2 (some .int) 2 0 0 [aI b] ad (cnt ns nt) M (fun r M' => M' = M ∧ r = some (aI (fstB b))) noX := by
  refine Con.of hl pl_X6 (Nat.le_of_ble_eq_true rfl) ?_
  intro D cA p e s m args below meth c C hr
  have loop : ∀ (n i : Nat), i + n = 5 → (∀ j, j < i → b.testBit j = false) → Wm p l e (rmd 2 0 0) s m args below meth c 2 D cA b0 0 0 (vx_MQ below (mQ D cA b0 ad (cnt ns nt) (fun r M' => M' = M ∧ r = some (aI (fstB b)))) (mX D cA b0 ad (cnt ns nt) noX) args s 0 0 b0) 2 [(0, aI b), (1, aI i)] [] ad (cnt ns nt) M := by
    intro n
    induction n with
    | zero =>
      intro i hi hj
      refine w_iload_n C dX6_firstBit_2 rfl ?_
      refine w_iconst C dX6_firstBit_3 ?_
      refine w_icmp_ge C dX6_firstBit_4 (by omega) (by omega) (fun h4 => ?_) (fun h4 => ?_)
      · refine w_iload_n C dX6_firstBit_21 rfl ?_
        refine w_iret C hr dX6_firstBit_22 rfl (⟨rfl, by rw [show i = 5 by omega, fstB, hj 0 (by omega), hj 1 (by omega), hj 2 (by omega), hj 3 (by omega), hj 4 (by omega)]; rfl⟩) (by decide) (by decide)
      · omega
    | succ n ih =>
      intro i hi hj
      refine w_iload_n C dX6_firstBit_2 rfl ?_
      refine w_iconst C dX6_firstBit_3 ?_
      refine w_icmp_ge C dX6_firstBit_4 (by omega) (by omega) (fun h4 => ?_) (fun h4 => ?_)
      · omega
      · refine w_iload_n C dX6_firstBit_7 rfl ?_
        refine w_iload_n C dX6_firstBit_8 rfl ?_
        refine w_callS C dX6_firstBit_9 (c_X6_hasBit hl b i hb (by omega)) mX6_hasBit sX6_hasBit lk_X6_449 rfl rfl ⟨by decide, by decide, by decide, by decide⟩ (Nat.le_of_ble_eq_true rfl) (fun _ _ h => h.elim) ⟨by decide, by decide⟩ (fun r_ M_ q9 => ?_)
        obtain ⟨rfl, rfl⟩ := q9
        have h01 := b2_01 (b.testBit i = true)
        refine w_if_ne C dX6_firstBit_12 (by omega) (fun h12 => ?_) (fun h12 => ?_)
        · refine w_iload_n C dX6_firstBit_21 rfl ?_
          refine w_iret C hr dX6_firstBit_22 rfl (⟨rfl, ?_⟩) (by decide) (by decide)
          have hbi : b.testBit i = true := Decidable.byContradiction fun q => h12 (b2_f q)
          rcases (show i = 0 ∨ i = 1 ∨ i = 2 ∨ i = 3 ∨ i = 4 by omega) with rfl | rfl | rfl | rfl | rfl
          all_goals simp_all [fstB]
        · refine w_iinc C dX6_firstBit_15 rfl (by decide) ?_
          refine w_goto C dX6_firstBit_18 ?_
          refine Wm.lsub (lv' := [(0, aI b), (1, aI ((i + 1 : Nat) : Int))]) ⟨rfl, rfl, trivial⟩ ?_
          refine ih (i + 1) (by omega) (fun j hj2 => ?_)
          rcases Nat.lt_or_ge j i with q | q
          · exact hj j q
          · rw [show j = i by omega]
            cases ht : b.testBit i
            · rfl
            · rw [b2_t ht] at h12
              omega
  refine w_iconst C dX6_firstBit_0 ?_
  refine w_istore_n C dX6_firstBit_1 (by decide) ?_
  exact Wm.lsub (lv' := [(0, aI b), (1, aI ((0 : Nat) : Int))]) ⟨rfl, rfl, trivial⟩ (loop 5 0 rfl (fun j hj => absurd hj (Nat.not_lt_zero j)))
theorem c_X6_endOfBits (hl : l.stackTraces = false) (b : Nat) (hb : b < 2147483648) : Con l b0 yX6_endOfBits cX6_endOfBits 2 (some .int) 2 0 0 [aI b] ad (cnt ns nt) M (fun r M' => M' = M ∧ r = some (aI (endB b))) noX := by
  refine Con.of hl pl_X6 (Nat.le_of_ble_eq_true rfl) ?_
  intro D cA p e s m args below meth c C hr
  have loop : ∀ (i : Nat), i ≤ 5 → (∀ j, i ≤ j → j < 5 → b.testBit j = false) → Wm p l e (rmd 2 0 0) s m args below meth c 2 D cA b0 0 0 (vx_MQ below (mQ D cA b0 ad (cnt ns nt) (fun r M' => M' = M ∧ r = some (aI (endB b)))) (mX D cA b0 ad (cnt ns nt) noX) args s 0 0 b0) 2 [(0, aI b), (1, aI i)] [] ad (cnt ns nt) M := by
    intro i
    induction i with
    | zero =>
      intro hi hj
      refine w_iload_n C dX6_endOfBits_2 rfl ?_
      refine w_if_le C dX6_endOfBits_3 (by omega) (fun h3 => ?_) (fun h3 => ?_)
      · refine w_iload_n C dX6_endOfBits_22 rfl ?_
        refine w_iret C hr dX6_endOfBits_23 rfl (⟨rfl, by rw [endB, hj 0 (by omega) (by omega), hj 1 (by omega) (by omega), hj 2 (by omega) (by omega), hj 3 (by omega) (by omega), hj 4 (by omega) (by omega)]; rfl⟩) (by decide) (by decide)
      · omega
    | succ i ih =>
      intro hi hj
      refine w_iload_n C dX6_endOfBits_2 rfl ?_
      refine w_if_le C dX6_endOfBits_3 (by omega) (fun h3 => ?_) (fun h3 => ?_)
      · omega
      · refine w_iload_n C dX6_endOfBits_6 rfl ?_
        refine w_iload_n C dX6_endOfBits_7 rfl ?_
        refine w_iconst C dX6_endOfBits_8 ?_
        refine w_isub C dX6_endOfBits_9 ?_
        refine Wm.top (v' := aI (i : Int)) (by rw [show ((i + 1 : Nat) : Int) - 1 = i by omega]) ?_
        refine w_callS C dX6_endOfBits_10 (c_X6_hasBit hl b i hb (by omega)) mX6_hasBit sX6_hasBit lk_X6_449 rfl rfl ⟨by decide, by decide, by decide, by decide⟩ (Nat.le_of_ble_eq_true rfl) (fun _ _ h => h.elim) ⟨by decide, by decide⟩ (fun r_ M_ q10 => ?_)
        obtain ⟨rfl, rfl⟩ := q10
        have h01 := b2_01 (b.testBit i = true)
        refine w_if_ne C dX6_endOfBits_13 (by omega) (fun h13 => ?_) (fun h13 => ?_)
        · refine w_iload_n C dX6_endOfBits_22 rfl ?_
          refine w_iret C hr dX6_endOfBits_23 rfl (⟨rfl, ?_⟩) (by decide) (by decide)
          have hbi : b.testBit i = true := Decidable.byContradiction fun q => h13 (b2_f q)
          rcases (show i = 0 ∨ i = 1 ∨ i = 2 ∨ i = 3 ∨ i = 4 by omega) with rfl | rfl | rfl | rfl | rfl
          · simp [endB, hbi, hj 1 (by omega) (by omega), hj 2 (by omega) (by omega), hj 3 (by omega) (by omega), hj 4 (by omega) (by omega)]
          · simp [endB, hbi, hj 2 (by omega) (by omega), hj 3 (by omega) (by omega), hj 4 (by omega) (by omega)]
          · simp [endB, hbi, hj 3 (by omega) (by omega), hj 4 (by omega) (by omega)]
          · simp [endB, hbi, hj 4 (by omega) (by omega)]
          · simp [endB, hbi]
        · refine w_iinc C dX6_endOfBits_16 rfl (by decide) ?_
          refine w_goto C dX6_endOfBits_19 ?_
          refine Wm.lsub (lv' := [(0, aI b), (1, aI (i : Int))]) ⟨rfl, by show some (aI (((i + 1 : Nat) : Int) + (-1))) = _; rw [show ((i + 1 : Nat) : Int) + (-1) = i by omega], trivial⟩ ?_
          refine ih (by omega) (fun j hj1 hj2 => ?_)
          rcases Nat.lt_or_ge i j with q | q
          · exact hj j q hj2
          · rw [show j = i by omega]
            cases ht : b.testBit i
            · rfl
            · rw [b2_t ht] at h13
              omega
  refine w_iconst C dX6_endOfBits_0 ?_
  refine w_istore_n C dX6_endOfBits_1 (by decide) ?_
  exact Wm.lsub (lv' := [(0, aI b), (1, aI ((5 : Nat) : Int))]) ⟨rfl, rfl, trivial⟩ (loop 5 (by omega) (fun j h1 h2 => absurd h2 (by omega)))
end Small
