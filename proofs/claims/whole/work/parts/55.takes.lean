/-! the room: taking pieces one by one -/
section Rm
variable {l : Launch} {b0 : Nat → Prop} {ad : Ads} {ns nt : Nat} {M : Mem}
theorem c_X6_takesKind (hl : l.stackTraces = false) {u : Int} (i : Nat) (hi : i < 16) (hu : M.1 29 0 i = u) (hub : -100000 ≤ u ∧ u ≤ 100000) (v : Nat) (hv : v ≤ 4) : Con l b0 yX6_takesKind cX6_takesKind 4 (some .boolean) 2 0 0 [aO 0 0, aI i, aI v] ad (cnt ns nt) M (fun r9 M' => M' = uI M 29 0 i (u - v) ∧ r9 = some (aI (b2 (0 ≤ u - v)))) noX := by
  have i29 : inD (cnt ns nt) 29 0 := Nat.zero_lt_one
  refine Con.of hl pl_X6 (Nat.le_of_ble_eq_true rfl) ?_
  intro D cA p e s m args below meth c C hr
  refine w_aload_n C dX6_takesKind_0 rfl ?_
  refine g_X6_45 C dX6_takesKind_1 (by first | assumption | exact Nat.zero_lt_one | exact Nat.zero_lt_two | exact Nat.one_lt_two) ?_
  refine w_iload_n C dX6_takesKind_4 rfl ?_
  refine w_callS C dX6_takesKind_5 (c_X6_entry hl IA_29 i29 (i : Int) (by omega)) mX6_entry sX6_entry lk_X6_264 rfl rfl ⟨by decide, by decide, by decide, by decide⟩ (Nat.le_of_ble_eq_true rfl) (fun _ _ h => h.elim) ⟨by decide, by decide⟩ (fun r_ M_ q5 => ?_)
  obtain ⟨rfl, rfl⟩ := q5
  rw [rd_ok (by omega), hu]
  refine w_iload_n C dX6_takesKind_8 rfl ?_
  refine w_isub C dX6_takesKind_9 ?_
  refine w_istore_n C dX6_takesKind_10 (by decide) ?_
  refine w_aload_n C dX6_takesKind_11 rfl ?_
  refine g_X6_45 C dX6_takesKind_12 (by first | assumption | exact Nat.zero_lt_one | exact Nat.zero_lt_two | exact Nat.one_lt_two) ?_
  refine w_iload_n C dX6_takesKind_15 rfl ?_
  refine w_iload_n C dX6_takesKind_16 rfl ?_
  refine w_callS C dX6_takesKind_17 (c_X6_store hl IA_29 i29 (i : Int) (u - v) (by omega)) mX6_store sX6_store lk_X6_293 rfl rfl ⟨by decide, by decide, by decide, by decide⟩ (Nat.le_of_ble_eq_true rfl) (fun _ _ h => h.elim) ⟨by decide, by decide⟩ (fun r_ M2 q17 => ?_)
  obtain ⟨q17, rfl⟩ := q17
  rw [wr_ok (by omega)] at q17
  subst q17
  refine w_iload_n C dX6_takesKind_20 rfl ?_
  refine w_if_lt C dX6_takesKind_21 (by omega) (fun h21 => ?_) (fun h21 => ?_)
  · refine w_iconst C dX6_takesKind_28 ?_
    refine w_iret C hr dX6_takesKind_29 (by first | exact narrow_z (b2_01 _) | exact narrow_z (by omega)) (⟨rfl, by rw [b2_f (by omega)]⟩) (by decide) (by decide)
  · refine w_iconst C dX6_takesKind_24 ?_
    refine w_goto C dX6_takesKind_25 ?_
    refine w_iret C hr dX6_takesKind_29 (by first | exact narrow_z (b2_01 _) | exact narrow_z (by omega)) (⟨rfl, by rw [b2_t (by omega)]⟩) (by decide) (by decide)
theorem c_X6_takesPart (hl : l.stackTraces = false) {u u' : Int} (j : Nat) (hj : j < 8) (hu : M.1 29 0 (2 * j) = u) (hu' : M.1 29 0 (2 * j + 1) = u') (hub : -100000 ≤ u ∧ u ≤ 100000) (hub' : -100000 ≤ u' ∧ u' ≤ 100000) (pa : Nat) (hpa : pa ≤ 1) (v : Nat) (hv : v ≤ 4) : Con l b0 yX6_takesPart cX6_takesPart 4 (some .boolean) 3 0 0 [aO 0 0, aI j, aI pa, aI v] ad (cnt ns nt) M (fun r9 M' => Fr (fun k i => k = 29 ∧ i = 0) M M' ∧ (0 ≤ u - v ∧ (pa = 1 → 0 ≤ u' - v) → M' = (if pa = 1 then uI (uI M 29 0 (2 * j) (u - v)) 29 0 (2 * j + 1) (u' - v) else uI M 29 0 (2 * j) (u - v))) ∧ r9 = some (aI (b2 (0 ≤ u - v ∧ (pa = 1 → 0 ≤ u' - v))))) noX := by
  have hb1 := b2_01 (0 ≤ u - v)
  have hb2 := b2_01 (0 ≤ u' - v)
  refine Con.of hl pl_X6 (Nat.le_of_ble_eq_true rfl) ?_
  intro D cA p e s m args below meth c C hr
  refine w_aload_n C dX6_takesPart_0 rfl ?_
  refine w_iload_n C dX6_takesPart_1 rfl ?_
  refine w_iconst C dX6_takesPart_2 ?_
  refine w_callS C dX6_takesPart_3 (c_X6_kindOf hl (j : Int) 0 (Or.inl rfl)) mX6_kindOf sX6_kindOf lk_X6_340 rfl rfl ⟨by decide, by decide, by decide, by decide⟩ (Nat.le_of_ble_eq_true rfl) (fun _ _ h => h.elim) ⟨by decide, by decide⟩ (fun r_ M_ q3 => ?_)
  obtain ⟨rfl, rfl⟩ := q3
  refine Wm.top (v' := aI ((2 * j : Nat) : Int)) (congrArg aI (by omega)) ?_
  refine w_iload_n C dX6_takesPart_6 rfl ?_
  refine w_callV C dX6_takesPart_7 (c_X6_takesKind hl (2 * j) (by omega) hu hub v hv) mX6_takesKind vX6_takesKind lk_X6_411 (by first | assumption | exact Nat.zero_lt_one | exact Nat.zero_lt_two | exact Nat.one_lt_two) rfl rfl rfl rfl ⟨by decide, by decide, by decide, by decide⟩ (Nat.le_of_ble_eq_true rfl) (fun _ _ h => h.elim) ⟨by decide, by decide⟩ (fun r_ M2 q7 => ?_)
  obtain ⟨rfl, rfl⟩ := q7
  have hF1 : Fr (fun k i => k = 29 ∧ i = 0) M_ (uI M_ 29 0 (2 * j) (u - v)) := Fr.rf.uI ⟨rfl, rfl⟩
  refine w_if_eq C dX6_takesPart_10 (by omega) (fun h10 => ?_) (fun h10 => ?_)
  · have y1 : ¬ 0 ≤ u - v := fun q => by
      rw [b2_t q] at h10
      omega
    refine w_iconst C dX6_takesPart_34 ?_
    refine w_iret C hr dX6_takesPart_35 (by first | exact narrow_z (b2_01 _) | exact narrow_z (by omega)) (⟨hF1, fun q => absurd q.1 y1, by rw [b2_f (fun q => y1 q.1)]⟩) (by decide) (by decide)
  · have y1 : 0 ≤ u - v := Decidable.byContradiction fun q => h10 (b2_f q)
    refine w_iload_n C dX6_takesPart_13 rfl ?_
    refine w_if_eq C dX6_takesPart_14 (by omega) (fun h14 => ?_) (fun h14 => ?_)
    · refine w_iconst C dX6_takesPart_30 ?_
      refine w_goto C dX6_takesPart_31 ?_
      refine w_iret C hr dX6_takesPart_35 (by first | exact narrow_z (b2_01 _) | exact narrow_z (by omega)) (⟨hF1, fun _ => by rw [if_neg (by omega)], by rw [b2_t ⟨y1, fun q => by omega⟩]⟩) (by decide) (by decide)
    · have hp1 : pa = 1 := by omega
      refine w_aload_n C dX6_takesPart_17 rfl ?_
      refine w_iload_n C dX6_takesPart_18 rfl ?_
      refine w_iconst C dX6_takesPart_19 ?_
      refine w_callS C dX6_takesPart_20 (c_X6_kindOf hl (j : Int) 1 (Or.inr rfl)) mX6_kindOf sX6_kindOf lk_X6_340 rfl rfl ⟨by decide, by decide, by decide, by decide⟩ (Nat.le_of_ble_eq_true rfl) (fun _ _ h => h.elim) ⟨by decide, by decide⟩ (fun r_ M_ q20 => ?_)
      obtain ⟨e20, rfl⟩ := q20
      subst e20
      refine Wm.top (v' := aI ((2 * j + 1 : Nat) : Int)) (congrArg aI (by omega)) ?_
      refine w_iload_n C dX6_takesPart_23 rfl ?_
      refine w_callV C dX6_takesPart_24 (c_X6_takesKind hl (2 * j + 1) (by omega) (show (uI M_ 29 0 (2 * j) (u - v)).1 29 0 (2 * j + 1) = u' by rw [uI_get, if_neg (fun q => absurd q.2.2 (by omega))]; exact hu') hub' v hv) mX6_takesKind vX6_takesKind lk_X6_411 (by first | assumption | exact Nat.zero_lt_one | exact Nat.zero_lt_two | exact Nat.one_lt_two) rfl rfl rfl rfl ⟨by decide, by decide, by decide, by decide⟩ (Nat.le_of_ble_eq_true rfl) (fun _ _ h => h.elim) ⟨by decide, by decide⟩ (fun r_ M3 q24 => ?_)
      obtain ⟨rfl, rfl⟩ := q24
      refine w_if_eq C dX6_takesPart_27 (by omega) (fun h27 => ?_) (fun h27 => ?_)
      · have y2 : ¬ 0 ≤ u' - v := fun q => by
          rw [b2_t q] at h27
          omega
        refine w_iconst C dX6_takesPart_34 ?_
        refine w_iret C hr dX6_takesPart_35 (by first | exact narrow_z (b2_01 _) | exact narrow_z (by omega)) (⟨hF1.uI ⟨rfl, rfl⟩, fun q => absurd (q.2 hp1) y2, by rw [b2_f (fun q => y2 (q.2 hp1))]⟩) (by decide) (by decide)
      · have y2 : 0 ≤ u' - v := Decidable.byContradiction fun q => h27 (b2_f q)
        refine w_iconst C dX6_takesPart_30 ?_
        refine w_goto C dX6_takesPart_31 ?_
        refine w_iret C hr dX6_takesPart_35 (by first | exact narrow_z (b2_01 _) | exact narrow_z (by omega)) (⟨hF1.uI ⟨rfl, rfl⟩, fun _ => by rw [if_pos hp1], by rw [b2_t ⟨y1, fun _ => y2⟩]⟩) (by decide) (by decide)
end Rm
