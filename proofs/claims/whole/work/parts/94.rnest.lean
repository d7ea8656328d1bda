/-! the room: nesting in the trial -/
section Rm
variable {l : Launch} {b0 : Nat → Prop} {ad : Ads} {ns nt : Nat} {M : Mem}
def RB (S : Sg) (M : Mem) : Prop := RepCl S M ∧ RepSh S M ∧ RepRm S M
def tK : Nat → Nat → Prop := fun k i => mkK 1 k i ∨ (k = 27 ∧ i = 0) ∨ (k = 28 ∧ i = 0)
theorem RB.fr {S : Sg} {M M' : Mem} (h : RB S M) (hF : Fr tK M M') : RB S M' := by
  have n1 : ∀ k i, (k ≠ 3 ∧ k ≠ 2 ∧ k ≠ 12 ∧ k ≠ 22 ∧ k ≠ 23 ∧ k ≠ 24 ∧ k ≠ 25 ∧ k ≠ 26 ∧ k ≠ 27 ∧ k ≠ 28) → ¬ tK k i := fun k i h q => by
    unfold tK mkK at q
    omega
  exact ⟨h.1.fr hF (n1 _ _ (by omega)) (n1 _ _ (by omega)) (n1 _ _ (by omega)), h.2.1.fr hF (fun i => ⟨n1 _ _ (by omega), n1 _ _ (by omega), n1 _ _ (by omega), n1 _ _ (by omega), n1 _ _ (by omega)⟩), h.2.2.fr hF (n1 _ _ (by omega)) (n1 _ _ (by omega)) (n1 _ _ (by omega))⟩
theorem PInv.up {S : Sg} {P : List Pc} {q q' : Nat} (h : PInv S P q) (hq : q ≤ q') : PInv S P q' := by
  obtain ⟨h1, h2, h3⟩ := h
  refine ⟨fun p hp => ?_, h2, h3⟩
  obtain ⟨a1, a2, a3, a4, a5, a6, a7⟩ := h1 p hp
  exact ⟨a1, a2, a3, a4, a5, by omega, a7⟩
theorem RepMk.up {mi : Nat} {S : Sg} {P : List Pc} {q : Nat} {M : Mem} (h : RepMk mi S P q M) : RepMk mi S P q M := h
theorem slot_last {S : Sg} {Q : List Pc} {q : Nat} (hI : PInv S Q q) (p : Pc) (hp : pNum p = q) : slotS (Q ++ [p]) (q : Int) = some Q.length := by
  unfold slotS
  rw [List.findIdx?_append]
  have h1 : Q.findIdx? (fun p => decide ((pNum p : Int) = (q : Int))) = none := by
    rw [List.findIdx?_eq_none_iff]
    intro x hx
    have := (hI.1 x hx).2.2.2.2.2.1
    rw [decide_eq_false_iff_not]
    omega
  rw [h1]
  simp [List.findIdx?_cons, hp]
theorem erase_last (Q : List Pc) (p : Pc) : (Q ++ [p]).eraseIdx Q.length = Q := by
  rw [List.eraseIdx_append_of_length_le (Nat.le_refl _), Nat.sub_self]
  simp
theorem c_X6_nestInTrial (hl : l.stackTraces = false) {S : Sg} {Q : List Pc} {q : Nat} (hG : GInv S) (hZ : ∀ j, nsS S ≤ j → szS S j = 0) (hns : nsS S ≤ ns) (hB : RB S M) (hT : RepMk 1 S Q q M) (hI : PInv S Q q) (hQ : Q.length < 40) (hq : q < 1000000) (k : Nat) (hk : k < 16) : Con l b0 yX6_nestInTrial cX6_nestInTrial 5 (some .int) 5 0 0 [aO 0 0, aI k] ad (cnt ns nt) M (fun r M' => (zF S Q (k / 2) (k % 2) = -1 ∧ M' = M ∧ r = some (aI (-1))) ∨ (zF S Q (k / 2) (k % 2) ≠ -1 ∧ Fr (mkK 1) M M' ∧ RepMk 1 S (Q ++ [pcK q k (zF S Q (k / 2) (k % 2))]) (q + 1) M' ∧ PInv S (Q ++ [pcK q k (zF S Q (k / 2) (k % 2))]) (q + 1) ∧ r = some (aI q))) noX := by
  have i21 : inD (cnt ns nt) 2 1 := Nat.one_lt_two
  refine Con.of hl pl_X6 (Nat.le_of_ble_eq_true rfl) ?_
  intro D cA p e s m args below meth c C hr
  by_cases hj : k / 2 < nsS S
  · have tail : ∀ v : Int, v = ((k % 2 : Nat) : Int) → Wm p l e (rmd 5 0 0) s m args below meth c 5 D cA b0 0 0 (vx_MQ below (mQ D cA b0 ad (cnt ns nt) (fun r M' => (zF S Q (k / 2) (k % 2) = -1 ∧ M' = M ∧ r = some (aI (-1))) ∨ (zF S Q (k / 2) (k % 2) ≠ -1 ∧ Fr (mkK 1) M M' ∧ RepMk 1 S (Q ++ [pcK q k (zF S Q (k / 2) (k % 2))]) (q + 1) M' ∧ PInv S (Q ++ [pcK q k (zF S Q (k / 2) (k % 2))]) (q + 1) ∧ r = some (aI q)))) (mX D cA b0 ad (cnt ns nt) noX) args s 0 0 b0) 26 [(0, aO 0 0), (1, aI k), (2, aO 4 (k / 2))] [aI v] ad (cnt ns nt) M := by
      intro v hv
      subst hv
      obtain ⟨f, hM⟩ := hT
      refine w_istore_n C dX6_nestInTrial_26 (by decide) ?_
      refine w_aload_n C dX6_nestInTrial_27 rfl ?_
      refine g_X6_35 C dX6_nestInTrial_28 (by first | assumption | exact Nat.zero_lt_one | exact Nat.zero_lt_two | exact Nat.one_lt_two) ?_
      refine w_aload_n C dX6_nestInTrial_31 rfl ?_
      refine g_X6_12 C dX6_nestInTrial_32 (by first | assumption | exact Nat.zero_lt_one | exact Nat.zero_lt_two | exact Nat.one_lt_two) ?_
      refine w_aload_n C dX6_nestInTrial_35 rfl ?_
      refine w_iload_n C dX6_nestInTrial_36 rfl ?_
      refine w_callV C dX6_nestInTrial_37 (c_X1_firstSpot hl hG i21 (by omega) hB.1 hB.2.1 hM hns hj (k % 2) (by omega)) mX1_firstSpot vX1_firstSpot lk_X6_199 (by first | assumption | exact Nat.zero_lt_one | exact Nat.zero_lt_two | exact Nat.one_lt_two) rfl rfl rfl rfl ⟨by first | decide | (simp only [rmd]; omega), by first | decide | (simp only [rmd]; omega), by first | decide | (simp only [rmd]; omega), by first | decide | (simp only [rmd]; omega)⟩ (Nat.le_of_ble_eq_true rfl) (fun _ _ h => h.elim) ⟨by decide, by decide⟩ (fun r_ M_ q37 => ?_)
      obtain ⟨rfl, z, rfl, hz⟩ := q37
      have ez : z = zF S Q (k / 2) (k % 2) := hz.uniq (zF_sp S Q (k / 2) (k % 2))
      have rz : -1 ≤ z ∧ z < 2880 := by
        rcases zF_rg S Q (k / 2) (k % 2) with h | ⟨s, h1, h2, -⟩ <;> omega
      refine w_istore C dX6_nestInTrial_40 (by decide) ?_
      refine w_iload C dX6_nestInTrial_42 rfl ?_
      refine w_iconst C dX6_nestInTrial_44 ?_
      refine w_icmp_ne C dX6_nestInTrial_45 (by omega) (by omega) (fun h45 => ?_) (fun h45 => ?_)
      · rcases hz with ⟨h1, -⟩ | ⟨s9, g1, g2, g3, -⟩
        · omega
        · subst g2
          refine w_aload_n C dX6_nestInTrial_52 rfl ?_
          refine g_X6_35 C dX6_nestInTrial_53 (by first | assumption | exact Nat.zero_lt_one | exact Nat.zero_lt_two | exact Nat.one_lt_two) ?_
          refine w_aload_n C dX6_nestInTrial_56 rfl ?_
          refine g_X6_12 C dX6_nestInTrial_57 (by first | assumption | exact Nat.zero_lt_one | exact Nat.zero_lt_two | exact Nat.one_lt_two) ?_
          refine w_aload_n C dX6_nestInTrial_60 rfl ?_
          refine w_iload C dX6_nestInTrial_61 rfl ?_
          refine w_iload_n C dX6_nestInTrial_63 rfl ?_
          refine w_callV C dX6_nestInTrial_64 (c_X1_putAtSpot hl hG i21 hQ hB.1 hB.2.1 ⟨f, hM⟩ hI hns hj (k % 2) (by omega) s9 g1 g3 hq) mX1_putAtSpot vX1_putAtSpot lk_X6_208 (by first | assumption | exact Nat.zero_lt_one | exact Nat.zero_lt_two | exact Nat.one_lt_two) rfl rfl rfl rfl ⟨by first | decide | (simp only [rmd]; omega), by first | decide | (simp only [rmd]; omega), by first | decide | (simp only [rmd]; omega), by first | decide | (simp only [rmd]; omega)⟩ (Nat.le_of_ble_eq_true rfl) (fun _ _ h => h.elim) ⟨by decide, by decide⟩ (fun r_ M2 q64 => ?_)
          obtain ⟨w1, w2, rfl⟩ := q64
          have e2 : Q ++ [(q, k / 2, s9 % 4, s9 / 4 / 12, s9 / 4 % 12, k % 2)] = Q ++ [pcK q k (zF S Q (k / 2) (k % 2))] := by
            rw [← ez]
            unfold pcK
            rw [Int.toNat_natCast]
          rw [e2] at w2
          have w3 : PInv S (Q ++ [pcK q k (zF S Q (k / 2) (k % 2))]) (q + 1) := by
            rw [← e2]
            exact PInv.put hG hI hj (by omega) (by omega) g3
          refine w_iret C hr dX6_nestInTrial_67 rfl (Or.inr ⟨by omega, w1, w2, w3, rfl⟩) (by decide) (by decide)
      · refine w_iconst C dX6_nestInTrial_48 ?_
        refine w_goto C dX6_nestInTrial_49 ?_
        refine w_iret C hr dX6_nestInTrial_67 rfl (Or.inl ⟨by omega, rfl, rfl⟩) (by decide) (by decide)
    refine w_aload_n C dX6_nestInTrial_0 rfl ?_
    refine w_iload_n C dX6_nestInTrial_1 rfl ?_
    refine w_iconst C dX6_nestInTrial_2 ?_
    refine w_idiv C dX6_nestInTrial_3 (by omega) (by omega) ?_
    refine w_callV C dX6_nestInTrial_4 (c_X6_shapeNumbered hl hG hB.2.2 ((k : Int) / 2) (by omega)) mX6_shapeNumbered vX6_shapeNumbered lk_X6_169 (by first | assumption | exact Nat.zero_lt_one | exact Nat.zero_lt_two | exact Nat.one_lt_two) rfl rfl rfl rfl ⟨by first | decide | (simp only [rmd]; omega), by first | decide | (simp only [rmd]; omega), by first | decide | (simp only [rmd]; omega), by first | decide | (simp only [rmd]; omega)⟩ (Nat.le_of_ble_eq_true rfl) (fun _ _ h => h.elim) ⟨by decide, by decide⟩ (fun r_ M_ q4 => ?_)
    obtain ⟨rfl, rfl⟩ := q4
    rw [if_pos (by omega)]
    refine Wm.top (v' := aO 4 (k / 2)) (by rw [show ((k : Int) / 2).toNat = k / 2 by omega]) ?_
    refine w_astore_n C dX6_nestInTrial_7 (by decide) ?_
    refine w_aload_n C dX6_nestInTrial_8 rfl ?_
    refine w_ifnonnull C dX6_nestInTrial_9 (fun h9 => ?_) (fun h9 => ?_)
    · refine w_iload_n C dX6_nestInTrial_14 rfl ?_
      refine w_iconst C dX6_nestInTrial_15 ?_
      refine w_irem C dX6_nestInTrial_16 (by omega) (by omega) ?_
      refine w_iconst C dX6_nestInTrial_17 ?_
      refine w_icmp_ne C dX6_nestInTrial_18 (by omega) (by omega) (fun h18 => ?_) (fun h18 => ?_)
      · refine w_iconst C dX6_nestInTrial_25 ?_
        exact Wm.lsub (lv' := [(0, aO 0 0), (1, aI k), (2, aO 4 (k / 2))]) ⟨rfl, rfl, rfl, trivial⟩ (tail 0 (by omega))
      · refine w_iconst C dX6_nestInTrial_21 ?_
        refine w_goto C dX6_nestInTrial_22 ?_
        exact Wm.lsub (lv' := [(0, aO 0 0), (1, aI k), (2, aO 4 (k / 2))]) ⟨rfl, rfl, rfl, trivial⟩ (tail 1 (by omega))
    · cases h9
  · have h0 := hZ (k / 2) (by omega)
    refine w_aload_n C dX6_nestInTrial_0 rfl ?_
    refine w_iload_n C dX6_nestInTrial_1 rfl ?_
    refine w_iconst C dX6_nestInTrial_2 ?_
    refine w_idiv C dX6_nestInTrial_3 (by omega) (by omega) ?_
    refine w_callV C dX6_nestInTrial_4 (c_X6_shapeNumbered hl hG hB.2.2 ((k : Int) / 2) (by omega)) mX6_shapeNumbered vX6_shapeNumbered lk_X6_169 (by first | assumption | exact Nat.zero_lt_one | exact Nat.zero_lt_two | exact Nat.one_lt_two) rfl rfl rfl rfl ⟨by first | decide | (simp only [rmd]; omega), by first | decide | (simp only [rmd]; omega), by first | decide | (simp only [rmd]; omega), by first | decide | (simp only [rmd]; omega)⟩ (Nat.le_of_ble_eq_true rfl) (fun _ _ h => h.elim) ⟨by decide, by decide⟩ (fun r_ M_ q4 => ?_)
    obtain ⟨rfl, rfl⟩ := q4
    rw [if_neg (by omega)]
    refine w_astore_n C dX6_nestInTrial_7 (by decide) ?_
    refine w_aload_n C dX6_nestInTrial_8 rfl ?_
    refine w_ifnonnull C dX6_nestInTrial_9 (fun h9 => ?_) (fun h9 => ?_)
    · obtain ⟨_, h9⟩ := h9
      cases h9
    · refine w_iconst C dX6_nestInTrial_12 ?_
      refine w_iret C hr dX6_nestInTrial_13 rfl (Or.inl ⟨zF_z h0, rfl, rfl⟩) (by decide) (by decide)
end Rm
