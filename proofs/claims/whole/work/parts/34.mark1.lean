/-! Marker: the pieces by slot and number, reads -/
theorem clo_ge (S : Sg) (P : List Pc) (k : Nat) : -1 ≤ clo S P k := by
  unfold clo
  split <;> omega
theorem clo_lt {S : Sg} {P : List Pc} {nx : Nat} (h : ∀ p ∈ P, pNum p < nx) (k : Nat) : clo S P k < nx ∨ clo S P k = -1 := by
  unfold clo
  split
  · rename_i p hp
    have := h p (List.mem_of_find?_eq_some hp)
    omega
  · exact Or.inr rfl
section Mk
variable {l : Launch} {b0 : Nat → Prop} {ad : Ads} {ns nt : Nat} {M : Mem}
theorem c_X1_isFull (hl : l.stackTraces = false) {mi n : Nat} (hmi : inD (cnt ns nt) 2 mi) (hn : M.1 2 mi 1 = n) (h40 : n ≤ 40) : Con l b0 yX1_isFull cX1_isFull 1 (some .boolean) 1 0 0 [aO 2 mi] ad (cnt ns nt) M (fun r9 M' => M' = M ∧ r9 = some (aI (b2 (40 ≤ n)))) noX := by
  have hmi2 : inD (cnt ns nt) 12 mi := hmi
  refine Con.of hl pl_X1 (Nat.le_of_ble_eq_true rfl) ?_
  intro D cA p e s m args below meth c C hr
  refine w_aload_n C dX1_isFull_0 rfl ?_
  refine g_X1_40 C dX1_isFull_1 (by first | assumption | exact Nat.zero_lt_one | exact Nat.zero_lt_two | exact Nat.one_lt_two) ?_
  refine w_aload_n C dX1_isFull_4 rfl ?_
  refine g_X1_11 C dX1_isFull_5 (by first | assumption | exact Nat.zero_lt_one | exact Nat.zero_lt_two | exact Nat.one_lt_two) ?_
  refine w_alen C dX1_isFull_8 hmi2 (Or.inr (Or.inr (Or.inr ⟨7, 3, by decide, RA_12⟩))) ?_
  refine w_icmp_lt C dX1_isFull_9 (by omega) (by omega) (fun h9 => ?_) (fun h9 => ?_)
  · refine w_iconst C dX1_isFull_16 ?_
    refine w_iret C hr dX1_isFull_17 (by first | exact narrow_z (b2_01 _) | exact narrow_z (by omega)) (⟨rfl, by rw [b2_f (by omega)]⟩) (by decide) (by decide)
  · refine w_iconst C dX1_isFull_12 ?_
    refine w_goto C dX1_isFull_13 ?_
    refine w_iret C hr dX1_isFull_17 (by first | exact narrow_z (b2_01 _) | exact narrow_z (by omega)) (⟨rfl, by rw [b2_t (by omega)]⟩) (by decide) (by decide)
theorem c_X1_pieceIn (hl : l.stackTraces = false) {mi n : Nat} {f : Nat → Nat} (hmi : inD (cnt ns nt) 2 mi) (hn : M.1 2 mi 1 = n) (h40 : n ≤ 40) (hf : ∀ i, i < 40 → f i < 40 ∧ M.2.1 12 mi i = some (40 * mi + f i)) (z : Int) (hz : -2147483648 ≤ z ∧ z ≤ 2147483647) : Con l b0 yX1_pieceIn cX1_pieceIn 2 (some (.object "CuttingRoom$Piece")) 1 0 0 [aO 2 mi, aI z] ad (cnt ns nt) M (fun r9 M' => M' = M ∧ r9 = some (if 0 ≤ z ∧ z < n then aO 3 (40 * mi + f z.toNat) else aN)) noX := by
  have hmi2 : inD (cnt ns nt) 12 mi := hmi
  refine Con.of hl pl_X1 (Nat.le_of_ble_eq_true rfl) ?_
  intro D cA p e s m args below meth c C hr
  refine w_iload_n C dX1_pieceIn_0 rfl ?_
  refine w_if_lt C dX1_pieceIn_1 (by omega) (fun h1 => ?_) (fun h1 => ?_)
  · refine w_null C dX1_pieceIn_30 ?_
    refine w_aret C hr (Or.inl ⟨_, rfl⟩) dX1_pieceIn_31 (⟨rfl, by rw [if_neg (by omega)]⟩) (by decide) (by decide)
  · refine w_iload_n C dX1_pieceIn_4 rfl ?_
    refine w_aload_n C dX1_pieceIn_5 rfl ?_
    refine g_X1_40 C dX1_pieceIn_6 (by first | assumption | exact Nat.zero_lt_one | exact Nat.zero_lt_two | exact Nat.one_lt_two) ?_
    refine w_icmp_ge C dX1_pieceIn_9 (by omega) (by omega) (fun h9 => ?_) (fun h9 => ?_)
    · refine w_null C dX1_pieceIn_30 ?_
      refine w_aret C hr (Or.inl ⟨_, rfl⟩) dX1_pieceIn_31 (⟨rfl, by rw [if_neg (by omega)]⟩) (by decide) (by decide)
    · refine w_iload_n C dX1_pieceIn_12 rfl ?_
      refine w_aload_n C dX1_pieceIn_13 rfl ?_
      refine g_X1_11 C dX1_pieceIn_14 (by first | assumption | exact Nat.zero_lt_one | exact Nat.zero_lt_two | exact Nat.one_lt_two) ?_
      refine w_alen C dX1_pieceIn_17 hmi2 (Or.inr (Or.inr (Or.inr ⟨7, 3, by decide, RA_12⟩))) ?_
      refine w_icmp_ge C dX1_pieceIn_18 (by omega) (by omega) (fun h18 => ?_) (fun h18 => ?_)
      · omega
      · refine w_aload_n C dX1_pieceIn_21 rfl ?_
        refine g_X1_11 C dX1_pieceIn_22 (by first | assumption | exact Nat.zero_lt_one | exact Nat.zero_lt_two | exact Nat.one_lt_two) ?_
        refine w_iload_n C dX1_pieceIn_25 rfl ?_
        refine w_aald C dX1_pieceIn_26 hmi2 RA_12 rfl (by omega) ?_
        refine w_goto C dX1_pieceIn_27 ?_
        refine w_aret C hr (Or.inl ⟨_, rfl⟩) dX1_pieceIn_31 (⟨rfl, by rw [if_pos (by omega), (hf z.toNat (by omega)).2]; rfl⟩) (by decide) (by decide)
theorem c_X1_slotOf (hl : l.stackTraces = false) {S : Sg} {P : List Pc} {nx mi : Nat} {f : Nat → Nat} (hmi : inD (cnt ns nt) 2 mi) (hP : P.length ≤ 40) (hM : RepMF f mi S P nx M) (hnum : ∀ p ∈ P, pNum p < 1000000) (z : Int) (hz : -2147483648 ≤ z ∧ z ≤ 2147483647) : Con l b0 yX1_slotOf cX1_slotOf 4 (some .int) 2 0 0 [aO 2 mi, aI z] ad (cnt ns nt) M (fun r9 M' => M' = M ∧ r9 = some (aI (match slotS P z with | some i => (i : Int) | none => -1))) noX := by
  obtain ⟨a1, a2, ⟨b1, b2', b3⟩, a4⟩ := hM
  refine Con.of hl pl_X1 (Nat.le_of_ble_eq_true rfl) ?_
  intro D cA p e s m args below meth c C hr
  have loop : ∀ (b n : Nat) (A B : List Pc), P = A ++ B → A.length = n → B.length = b → (∀ p ∈ A, decide ((pNum p : Int) = z) = false) → Wm p l e (rmd 2 0 0) s m args below meth c 4 D cA b0 0 0 (vx_MQ below (mQ D cA b0 ad (cnt ns nt) (fun r9 M' => M' = M ∧ r9 = some (aI (match slotS P z with | some i => (i : Int) | none => -1)))) (mX D cA b0 ad (cnt ns nt) noX) args s 0 0 b0) 2 [(0, aO 2 mi), (1, aI z), (2, aI n)] [] ad (cnt ns nt) M := by
    intro b
    induction b with
    | zero =>
      intro n A B hAB hA hB hno
      have hlen : P.length = n := by rw [hAB, List.length_append, hA, hB]; rfl
      refine w_iload_n C dX1_slotOf_2 rfl ?_
      refine w_aload_n C dX1_slotOf_3 rfl ?_
      refine g_X1_40 C dX1_slotOf_4 (by first | assumption | exact Nat.zero_lt_one | exact Nat.zero_lt_two | exact Nat.one_lt_two) ?_
      refine w_icmp_ge C dX1_slotOf_7 (by omega) (by omega) (fun h7 => ?_) (fun h7 => ?_)
      · refine w_iconst C dX1_slotOf_36 ?_
        refine w_iret C hr dX1_slotOf_37 rfl (⟨rfl, ?_⟩) (by decide) (by decide)
        have e9 : slotS P z = none := by
          unfold slotS
          rw [List.findIdx?_eq_none_iff, hAB, List.length_eq_zero_iff.mp hB, List.append_nil]
          exact hno
        rw [e9]
      · omega
    | succ b ih =>
      intro n A B hAB hA hB hno
      obtain ⟨q, B', rfl⟩ : ∃ q B', B = q :: B' := by
        cases B with
        | nil => cases hB
        | cons q B' => exact ⟨q, B', rfl⟩
      have hlen : P.length = n + (b + 1) := by rw [hAB, List.length_append, hA, hB]
      have hq : P[n]? = some q := by rw [hAB, ← hA]; simp
      have hqm : q ∈ P := List.mem_of_getElem? hq
      have hqn := hnum q hqm
      obtain ⟨r1, r2, r3, r4, r5, r6, r7⟩ := b3 n q hq
      have hi3 : inD (cnt ns nt) 3 (40 * mi + f n) := by
        have := (b1 n (by omega)).1
        have h2 : mi < 2 := hmi
        show 40 * mi + f n < 80
        omega
      refine w_iload_n C dX1_slotOf_2 rfl ?_
      refine w_aload_n C dX1_slotOf_3 rfl ?_
      refine g_X1_40 C dX1_slotOf_4 (by first | assumption | exact Nat.zero_lt_one | exact Nat.zero_lt_two | exact Nat.one_lt_two) ?_
      refine w_icmp_ge C dX1_slotOf_7 (by omega) (by omega) (fun h7 => ?_) (fun h7 => ?_)
      · omega
      · refine w_aload_n C dX1_slotOf_10 rfl ?_
        refine w_iload_n C dX1_slotOf_11 rfl ?_
        refine w_callV C dX1_slotOf_12 (c_X1_pieceIn hl hmi a1 hP b1 n (by omega)) mX1_pieceIn vX1_pieceIn lk_X1_44 (by first | assumption | exact Nat.zero_lt_one | exact Nat.zero_lt_two | exact Nat.one_lt_two) rfl rfl rfl rfl ⟨by decide, by decide, by decide, by decide⟩ (Nat.le_of_ble_eq_true rfl) (fun _ _ h => h.elim) ⟨by decide, by decide⟩ (fun r_ M_ q12 => ?_)
        obtain ⟨rfl, rfl⟩ := q12
        rw [if_pos (by omega), Int.toNat_natCast]
        refine Wm.top (v' := aO 3 (40 * mi + f n)) rfl ?_
        refine w_astore_n C dX1_slotOf_15 (by decide) ?_
        refine w_aload_n C dX1_slotOf_16 rfl ?_
        refine w_ifnull C dX1_slotOf_17 (fun h17 => ?_) (fun h17 => ?_)
        · cases h17
        · refine w_aload_n C dX1_slotOf_20 rfl ?_
          refine g_X1_48 C dX1_slotOf_21 (by first | assumption | exact Nat.zero_lt_one | exact Nat.zero_lt_two | exact Nat.one_lt_two) ?_
          refine w_iload_n C dX1_slotOf_24 rfl ?_
          refine w_icmp_ne C dX1_slotOf_25 (by omega) (by omega) (fun h25 => ?_) (fun h25 => ?_)
          · refine w_iinc C dX1_slotOf_30 rfl (by decide) ?_
            refine w_goto C dX1_slotOf_33 ?_
            refine Wm.lsub (lv' := [(0, aO 2 mi), (1, aI z), (2, aI ((n + 1 : Nat) : Int))]) ⟨rfl, rfl, rfl, trivial⟩ (ih (n + 1) (A ++ [q]) B' (by rw [hAB]; simp) (by simp [hA]) (by simpa using hB) (fun p hp => ?_))
            rcases List.mem_append.mp hp with h | h
            · exact hno p h
            · rw [List.mem_singleton.mp h, decide_eq_false_iff_not]
              rw [r1] at h25
              exact h25
          · refine w_iload_n C dX1_slotOf_28 rfl ?_
            refine w_iret C hr dX1_slotOf_29 rfl (⟨rfl, ?_⟩) (by decide) (by decide)
            have e9 : slotS P z = some n := by
              unfold slotS
              rw [List.findIdx?_eq_some_iff_getElem]
              refine ⟨by omega, ?_, fun j hj => ?_⟩
              · obtain ⟨h9, e9⟩ := List.getElem_of_getElem? hq
                rw [e9, decide_eq_true_iff, ← r1]
                omega
              · have hj2 : j < A.length := by omega
                have hp : P[j]'(by omega) = A[j] := by
                  simp only [hAB]
                  rw [List.getElem_append_left hj2]
                rw [hp, hno _ (List.getElem_mem hj2)]
                decide
            rw [e9]
  refine w_iconst C dX1_slotOf_0 ?_
  refine w_istore_n C dX1_slotOf_1 (by decide) ?_
  exact Wm.lsub (lv' := [(0, aO 2 mi), (1, aI z), (2, aI ((0 : Nat) : Int))]) ⟨rfl, rfl, rfl, trivial⟩ (loop P.length 0 [] P rfl rfl rfl (fun p h => by cases h))
theorem c_X1_pieceNumbered (hl : l.stackTraces = false) {S : Sg} {P : List Pc} {nx mi : Nat} {f : Nat → Nat} (hmi : inD (cnt ns nt) 2 mi) (hP : P.length ≤ 40) (hM : RepMF f mi S P nx M) (hnum : ∀ p ∈ P, pNum p < 1000000) (z : Int) (hz : -2147483648 ≤ z ∧ z ≤ 2147483647) : Con l b0 yX1_pieceNumbered cX1_pieceNumbered 2 (some (.object "CuttingRoom$Piece")) 3 0 0 [aO 2 mi, aI z] ad (cnt ns nt) M (fun r9 M' => M' = M ∧ r9 = some (match slotS P z with | some i => aO 3 (40 * mi + f i) | none => aN)) noX := by
  refine Con.of hl pl_X1 (Nat.le_of_ble_eq_true rfl) ?_
  intro D cA p e s m args below meth c C hr
  refine w_aload_n C dX1_pieceNumbered_0 rfl ?_
  refine w_aload_n C dX1_pieceNumbered_1 rfl ?_
  refine w_iload_n C dX1_pieceNumbered_2 rfl ?_
  refine w_callV C dX1_pieceNumbered_3 (c_X1_slotOf hl hmi hP hM hnum z hz) mX1_slotOf vX1_slotOf lk_X1_51 (by first | assumption | exact Nat.zero_lt_one | exact Nat.zero_lt_two | exact Nat.one_lt_two) rfl rfl rfl rfl ⟨by decide, by decide, by decide, by decide⟩ (Nat.le_of_ble_eq_true rfl) (fun _ _ h => h.elim) ⟨by decide, by decide⟩ (fun r_ M_ q3 => ?_)
  obtain ⟨rfl, rfl⟩ := q3
  cases hs : slotS P z with
  | none =>
    refine w_callV C dX1_pieceNumbered_6 (c_X1_pieceIn hl hmi hM.1 hP hM.2.2.1.1 (-1) (by omega)) mX1_pieceIn vX1_pieceIn lk_X1_44 (by first | assumption | exact Nat.zero_lt_one | exact Nat.zero_lt_two | exact Nat.one_lt_two) rfl rfl rfl rfl ⟨by decide, by decide, by decide, by decide⟩ (Nat.le_of_ble_eq_true rfl) (fun _ _ h => h.elim) ⟨by decide, by decide⟩ (fun r_ M_ q6 => ?_)
    obtain ⟨rfl, rfl⟩ := q6
    refine w_aret C hr (Or.inl ⟨_, rfl⟩) dX1_pieceNumbered_9 (⟨rfl, rfl⟩) (by decide) (by decide)
  | some i =>
    have hi : i < P.length := by
      unfold slotS at hs
      rw [List.findIdx?_eq_some_iff_getElem] at hs
      exact hs.1
    refine w_callV C dX1_pieceNumbered_6 (c_X1_pieceIn hl hmi hM.1 hP hM.2.2.1.1 (i : Int) (by omega)) mX1_pieceIn vX1_pieceIn lk_X1_44 (by first | assumption | exact Nat.zero_lt_one | exact Nat.zero_lt_two | exact Nat.one_lt_two) rfl rfl rfl rfl ⟨by decide, by decide, by decide, by decide⟩ (Nat.le_of_ble_eq_true rfl) (fun _ _ h => h.elim) ⟨by decide, by decide⟩ (fun r_ M_ q6 => ?_)
    obtain ⟨rfl, rfl⟩ := q6
    rw [if_pos (by omega), Int.toNat_natCast]
    refine w_aret C hr (Or.inl ⟨_, rfl⟩) dX1_pieceNumbered_9 (⟨rfl, rfl⟩) (by decide) (by decide)
theorem c_X1_ownerOf (hl : l.stackTraces = false) {mi : Nat} {g : Nat → Int} (hmi : inD (cnt ns nt) 2 mi) (ho : ∀ k, k < 720 → M.1 22 mi k = g k) (u v : Nat) (hu : u < 60) (hv : v < 12) : Con l b0 yX1_ownerOf cX1_ownerOf 4 (some .int) 1 0 0 [aO 2 mi, aI u, aI v] ad (cnt ns nt) M (fun r9 M' => M' = M ∧ r9 = some (aI (g (12 * u + v)))) noX := by
  have hmi2 : inD (cnt ns nt) 22 mi := hmi
  refine Con.of hl pl_X1 (Nat.le_of_ble_eq_true rfl) ?_
  intro D cA p e s m args below meth c C hr
  refine w_iload_n C dX1_ownerOf_0 rfl ?_
  refine w_bipush (v := 12) C dX1_ownerOf_1 rfl ?_
  refine w_imul C dX1_ownerOf_3 ?_
  refine w_iload_n C dX1_ownerOf_4 rfl ?_
  refine w_iadd C dX1_ownerOf_5 ?_
  refine w_istore_n C dX1_ownerOf_6 (by decide) ?_
  refine w_iload_n C dX1_ownerOf_7 rfl ?_
  refine w_if_lt C dX1_ownerOf_8 (by omega) (fun h8 => ?_) (fun h8 => ?_)
  · omega
  · refine w_iload_n C dX1_ownerOf_11 rfl ?_
    refine w_aload_n C dX1_ownerOf_12 rfl ?_
    refine g_X1_18 C dX1_ownerOf_13 (by first | assumption | exact Nat.zero_lt_one | exact Nat.zero_lt_two | exact Nat.one_lt_two) ?_
    refine w_alen C dX1_ownerOf_16 hmi2 (Or.inl IA_22) ?_
    refine w_icmp_ge C dX1_ownerOf_17 (by omega) (by omega) (fun h17 => ?_) (fun h17 => ?_)
    · omega
    · refine w_aload_n C dX1_ownerOf_20 rfl ?_
      refine g_X1_18 C dX1_ownerOf_21 (by first | assumption | exact Nat.zero_lt_one | exact Nat.zero_lt_two | exact Nat.one_lt_two) ?_
      refine w_iload_n C dX1_ownerOf_24 rfl ?_
      refine w_iald C dX1_ownerOf_25 (by first | assumption | exact Nat.zero_lt_one | exact Nat.zero_lt_two | exact Nat.one_lt_two) IA_22 (by omega) ?_
      refine w_goto C dX1_ownerOf_26 ?_
      refine w_iret C hr dX1_ownerOf_30 rfl (⟨rfl, by rw [show ((u : Int) * 12 + v).toNat = 12 * u + v by omega, ho _ (by omega)]⟩) (by decide) (by decide)
end Mk
