/-! the room: nestedByTrying, the loop over the orders -/
section Rm
variable {l : Launch} {b0 : Nat → Prop} {ad : Ads} {ns nt : Nat} {M : Mem}
theorem lio_le {S : Sg} : ∀ {n : Nat} {qv : Nat → Nat} {Q : List Pc} {ord : Nat}, lio S n qv Q ord ≤ 61
  | 0, _, Q, _ => Nat.le_trans (lenR_le S Q) (by decide)
  | n + 1, qv, Q, ord => by
    unfold lio
    split
    · exact Nat.le_refl _
    · exact lio_le
theorem c_X6_nestedByTrying (hl : l.stackTraces = false) {S : Sg} {P : List Pc} {nx : Nat} (hI : Inv S P nx) (hZ : InvZ S) (hR : RepRoom S P nx M) (hns : nsS S ≤ ns) (hnt : ntS S ≤ nt) (a : Int) (ha : -2147483648 ≤ a ∧ a ≤ 2147483647) : Con l b0 yX6_nestedByTrying cX6_nestedByTrying 6 (some .int) 10 3 18 [aO 0 0, aI a] ad (cnt ns nt) M (okR (oNested a S P nx)) (exR (oNested a S P nx) [eIO, eUO, eIS]) := by
  have i21 : inD (cnt ns nt) 2 1 := Nat.one_lt_two
  have T1 : ¬ (0 ≤ a ∧ a < ntS S) → exR (oNested a S P nx) [eIO, eUO, eIS] eIO M := fun h => ⟨0, rfl, by unfold oNested; rw [if_pos h], by unfold oNested; rw [if_pos h]; exact hR⟩
  have T2 : ∀ M', (0 ≤ a ∧ a < ntS S) → ¬ (1 ≤ nwS S a.toNat ∧ nwS S a.toNat ≤ 4) → RepRoom S P nx M' → exR (oNested a S P nx) [eIO, eUO, eIS] eUO M' := fun M' h1 h2 h3 => by
    have e : oNested a S P nx = (2, 0, S, P, nx) := by unfold oNested; rw [if_neg (fun q => q h1), if_pos h2]
    exact ⟨1, rfl, by rw [e], by rw [e]; exact h3⟩
  have T3 : ∀ M', (0 ≤ a ∧ a < ntS S) → (1 ≤ nwS S a.toNat ∧ nwS S a.toNat ≤ 4) → 61 ≤ leastS S a.toNat → RepRoom S P nx M' → exR (oNested a S P nx) [eIO, eUO, eIS] eIS M' := fun M' h1 h2 h3 h4 => by
    have e : oNested a S P nx = (3, 0, S, P, nx) := by unfold oNested; rw [if_neg (fun q => q h1), if_neg (fun q => q h2), if_pos h3]
    exact ⟨2, rfl, by rw [e], by rw [e]; exact h4⟩
  have T0 : ∀ M', (0 ≤ a ∧ a < ntS S) → (1 ≤ nwS S a.toNat ∧ nwS S a.toNat ≤ 4) → leastS S a.toNat < 61 → RepRoom S P nx M' → okR (oNested a S P nx) (some (aI (leastS S a.toNat : Nat))) M' := fun M' h1 h2 h3 h4 => by
    have e : oNested a S P nx = (0, (leastS S a.toNat : Int), S, P, nx) := by unfold oNested; rw [if_neg (fun q => q h1), if_neg (fun q => q h2), if_neg (by omega)]
    exact ⟨by rw [e], by rw [e], by rw [e]; exact h4⟩
  have X2 : ∀ {M' : Mem}, Fr tK M M' → M'.2.1 12 1 = M.2.1 12 1 → RepRoom S P nx M' := fun h h12 => by
    have hB := RB.fr ⟨hR.1, hR.2.1, hR.2.2.2.2.1⟩ h
    have n0 : ∀ k, ¬ (k = 3 ∨ k = 27 ∨ k = 28) → ¬ tK k 0 := fun k hk q => by
      unfold tK mkK at q
      omega
    have n3 : ∀ i, i < 40 → ¬ tK 3 (40 * 0 + i) := fun i hi q => by
      unfold tK mkK at q
      omega
    obtain ⟨f, g1, g2⟩ := hR.2.2.2.2.2
    exact ⟨hB.1, hB.2.1, RepMk.fr hI.2.2.1 h ⟨n0 _ (by omega), n0 _ (by omega), n0 _ (by omega), n0 _ (by omega), n0 _ (by omega), n0 _ (by omega)⟩ n3 hR.2.2.1, hR.2.2.2.1.fr h (fun i => ⟨fun q => by unfold tK mkK at q; omega, fun q => by unfold tK mkK at q; omega⟩), hB.2.2, f, fun i hi => by rw [h12]; exact g1 i hi, g2⟩
  refine Con.of hl pl_X6 (Nat.le_of_ble_eq_true rfl) ?_
  intro D cA p e s m args below meth c C hr
  refine w_aload_n C dX6_nestedByTrying_0 rfl ?_
  refine w_aload_n C dX6_nestedByTrying_1 rfl ?_
  refine w_iload_n C dX6_nestedByTrying_2 rfl ?_
  refine w_callV C dX6_nestedByTrying_3 (c_X6_styleOrThrow hl hI.1 hR.2.2.2.2.1 a ha) mX6_styleOrThrow vX6_styleOrThrow lk_X6_279 (by first | assumption | exact Nat.zero_lt_one | exact Nat.zero_lt_two | exact Nat.one_lt_two) rfl rfl rfl rfl ⟨by first | decide | (simp only [rmd]; omega), by first | decide | (simp only [rmd]; omega), by first | decide | (simp only [rmd]; omega), by first | decide | (simp only [rmd]; omega)⟩ (Nat.le_of_ble_eq_true rfl) (fun E M' h => by obtain ⟨rfl, rfl, h⟩ := h; exact T1 h) ⟨by decide, by decide⟩ (fun r_ M_ q3 => ?_)
  obtain ⟨rfl, y1, rfl⟩ := q3
  have i6 : inD (cnt ns nt) 6 a.toNat := Nat.lt_of_lt_of_le (show a.toNat < ntS S by omega) hnt
  have XW : ∀ (E : String) (M' : Mem), E = eUO ∧ Fr tK M_ M' ∧ M'.2.1 12 1 = M_.2.1 12 1 ∧ ¬ (1 ≤ nwS S a.toNat ∧ nwS S a.toNat ≤ 4) → exR (oNested a S P nx) [eIO, eUO, eIS] E M' := fun E M' h => by
    obtain ⟨rfl, h1, h3, h2⟩ := h
    exact T2 M' y1 h2 (X2 h1 h3)
  refine w_callV C dX6_nestedByTrying_6 (c_X6_wantPieces hl hI hZ hR hns hnt a.toNat (by omega)) mX6_wantPieces vX6_wantPieces lk_X6_315 (by first | assumption | exact Nat.zero_lt_one | exact Nat.zero_lt_two | exact Nat.one_lt_two) rfl rfl rfl rfl ⟨by first | decide | (simp only [rmd]; omega), by first | decide | (simp only [rmd]; omega), by first | decide | (simp only [rmd]; omega), by first | decide | (simp only [rmd]; omega)⟩ (Nat.le_of_ble_eq_true rfl) XW ⟨by decide, by decide⟩ (fun r_ M1 q6 => ?_)
  obtain ⟨f1, f2, f3, f4, rfl⟩ := q6
  have hR1 := X2 f1 f2
  generalize hw : wnS S a.toNat = w at f3
  have hnw : nwS S a.toNat = sumN w 16 := by rw [← hw]; rfl
  have hw4 : ∀ k, k < 16 → w k ≤ 4 := fun k _ => by rw [← hw]; exact wn4 hI a.toNat k
  rw [hnw] at f4
  have hfc : fct (sumN w 16) ≤ 24 := by
    rcases (show sumN w 16 = 1 ∨ sumN w 16 = 2 ∨ sumN w 16 = 3 ∨ sumN w 16 = 4 by omega) with e | e | e | e <;> (rw [e]; decide)
  have hfq : ∀ i, i < sumN w 16 → (fqL w 16).getD i 0 < 16 := fun i hi => by
    rw [← fqL_len w 16] at hi
    rw [List.getD_eq_getElem?_getD, List.getElem?_eq_getElem hi]
    exact fqL_lt w 16 _ (List.getElem_mem hi)
  have hmin : minF (lio S (sumN w 16) (fun i => (fqL w 16).getD i 0) []) (fct (sumN w 16)) = leastS S a.toNat := by
    rw [lio_min hfq]
    unfold leastS
    rw [hnw, hw]
    refine minN_cg (fun k hk => ?_) rfl
    rw [← fqL_len w 16, wOf_list, fqL_count, if_pos hk]
  generalize hF9 : lio S (sumN w 16) (fun i => (fqL w 16).getD i 0) [] = F9 at hmin
  have hl61 : leastS S a.toNat ≤ 61 := minN_le61
  have L39 : ∀ (d o : Nat) (M2 : Mem), o + d = fct (sumN w 16) → RepRoom S P nx M2 → Wt w M2 → Wm p l e (rmd 10 3 18) s m args below meth c 6 D cA b0 2 12 (vx_MQ below (mQ D cA b0 ad (cnt ns nt) (okR (oNested a S P nx))) (mX D cA b0 ad (cnt ns nt) (exR (oNested a S P nx) [eIO, eUO, eIS])) args s 3 18 b0) 39 [(0, aO 0 0), (2, aI (sumN w 16 : Nat)), (3, aI (fct (sumN w 16) : Nat)), (4, aI (minF F9 o : Nat)), (5, aI o)] [] ad (cnt ns nt) M2 := by
    intro d
    induction d with
    | zero =>
      intro o M2 ho hR2 hW2
      obtain rfl : o = fct (sumN w 16) := by omega
      refine w_iload C dX6_nestedByTrying_39 rfl ?_
      refine w_iload_n C dX6_nestedByTrying_41 rfl ?_
      refine w_icmp_ge C dX6_nestedByTrying_42 (by omega) (by omega) (fun h42 => ?_) (fun h42 => ?_)
      · refine w_iload C dX6_nestedByTrying_65 rfl ?_
        rw [hmin]
        have XL : ∀ (E : String) (M' : Mem), E = eIS ∧ M' = M2 ∧ 61 ≤ leastS S a.toNat → exR (oNested a S P nx) [eIO, eUO, eIS] E M' := fun E M' h => by
          obtain ⟨rfl, rfl, h2⟩ := h
          exact T3 M' y1 (by omega) h2 hR2
        refine w_callS C dX6_nestedByTrying_67 (c_X6_lengthOrThrow hl (leastS S a.toNat) hl61) mX6_lengthOrThrow sX6_lengthOrThrow lk_X6_321 rfl rfl ⟨by first | decide | (simp only [rmd]; omega), by first | decide | (simp only [rmd]; omega), by first | decide | (simp only [rmd]; omega), by first | decide | (simp only [rmd]; omega)⟩ (Nat.le_of_ble_eq_true rfl) XL ⟨by decide, by decide⟩ (fun r_ M4 q67 => ?_)
        obtain ⟨rfl, h61, rfl⟩ := q67
        refine w_iret C hr dX6_nestedByTrying_70 rfl (T0 _ y1 (by omega) h61 hR2) (by decide) (by decide)
      · omega
    | succ d ih =>
      intro o M2 ho hR2 hW2
      have b1 := minF_le61 F9 o
      have b2 : F9 o ≤ 61 := by
        rw [← hF9]
        exact lio_le
      refine w_iload C dX6_nestedByTrying_39 rfl ?_
      refine w_iload_n C dX6_nestedByTrying_41 rfl ?_
      refine w_icmp_ge C dX6_nestedByTrying_42 (by omega) (by omega) (fun h42 => ?_) (fun h42 => ?_)
      · omega
      · refine w_iload C dX6_nestedByTrying_45 rfl ?_
        refine w_aload_n C dX6_nestedByTrying_47 rfl ?_
        refine w_iload C dX6_nestedByTrying_48 rfl ?_
        refine w_iload_n C dX6_nestedByTrying_50 rfl ?_
        refine w_callV C dX6_nestedByTrying_51 (c_X6_lengthInOrder hl hI hZ hR2 hns hW2 hw4 f4.2 o (by omega)) mX6_lengthInOrder vX6_lengthInOrder lk_X6_324 (by first | assumption | exact Nat.zero_lt_one | exact Nat.zero_lt_two | exact Nat.one_lt_two) rfl rfl rfl rfl ⟨by first | decide | (simp only [rmd]; omega), by first | decide | (simp only [rmd]; omega), by first | decide | (simp only [rmd]; omega), by first | decide | (simp only [rmd]; omega)⟩ (Nat.le_of_ble_eq_true rfl) (fun _ _ h => h.elim) ⟨by decide, by decide⟩ (fun r_ M3 q51 => ?_)
        obtain ⟨k1, ⟨Q, q, k2⟩, k3, rfl⟩ := q51
        rw [hF9]
        refine w_mmin C lk_X6_327 dX6_nestedByTrying_54 (by omega) (by omega) ⟨by decide, by decide, by decide, by decide⟩ (Nat.le_of_ble_eq_true rfl) ?_
        refine w_istore C dX6_nestedByTrying_57 (by decide) ?_
        refine w_iinc C dX6_nestedByTrying_59 rfl (by decide) ?_
        refine w_goto C dX6_nestedByTrying_62 ?_
        refine Wm.lsub (lv' := [(0, aO 0 0), (2, aI (sumN w 16 : Nat)), (3, aI (fct (sumN w 16) : Nat)), (4, aI (minF F9 (o + 1) : Nat)), (5, aI ((o + 1 : Nat) : Int))]) ⟨rfl, rfl, rfl, ?_, rfl, trivial⟩ (ih (o + 1) M3 (by omega) (hR2.tr hI k1 k2) k3)
        exact congrArg (fun z : Int => some (aI z)) (by show min (minF F9 o : Int) (F9 o : Int) = ((min (minF F9 o) (F9 o) : Nat) : Int); omega)
  have L15 : ∀ (d z : Nat), z * fct (d + 1) = fct (sumN w 16) → d + 1 ≤ 4 → Wm p l e (rmd 10 3 18) s m args below meth c 6 D cA b0 2 12 (vx_MQ below (mQ D cA b0 ad (cnt ns nt) (okR (oNested a S P nx))) (mX D cA b0 ad (cnt ns nt) (exR (oNested a S P nx) [eIO, eUO, eIS])) args s 3 18 b0) 15 [(0, aO 0 0), (2, aI (sumN w 16 : Nat)), (3, aI z), (4, aI ((d + 1 : Nat) : Int))] [] ad (cnt ns nt) M1 := by
    intro d
    induction d with
    | zero =>
      intro z hz hd
      have ez : z = fct (sumN w 16) := by rw [← hz]; show z = z * (1 * 1); omega
      subst ez
      refine w_iload C dX6_nestedByTrying_15 rfl ?_
      refine w_iconst C dX6_nestedByTrying_17 ?_
      refine w_icmp_le C dX6_nestedByTrying_18 (by omega) (by omega) (fun h18 => ?_) (fun h18 => ?_)
      · refine w_bipush (v := 61) C dX6_nestedByTrying_32 rfl ?_
        refine w_istore C dX6_nestedByTrying_34 (by decide) ?_
        refine w_iconst C dX6_nestedByTrying_36 ?_
        refine w_istore C dX6_nestedByTrying_37 (by decide) ?_
        exact Wm.lsub (lv' := [(0, aO 0 0), (2, aI (sumN w 16 : Nat)), (3, aI (fct (sumN w 16) : Nat)), (4, aI (minF F9 0 : Nat)), (5, aI ((0 : Nat) : Int))]) ⟨rfl, rfl, rfl, rfl, rfl, trivial⟩ (L39 _ 0 M1 (Nat.zero_add _) hR1 f3)
      · omega
    | succ d ih =>
      intro z hz hd
      refine w_iload C dX6_nestedByTrying_15 rfl ?_
      refine w_iconst C dX6_nestedByTrying_17 ?_
      refine w_icmp_le C dX6_nestedByTrying_18 (by omega) (by omega) (fun h18 => ?_) (fun h18 => ?_)
      · omega
      · refine w_iload_n C dX6_nestedByTrying_21 rfl ?_
        refine w_iload C dX6_nestedByTrying_22 rfl ?_
        refine w_imul C dX6_nestedByTrying_24 ?_
        refine w_istore_n C dX6_nestedByTrying_25 (by decide) ?_
        refine w_iinc C dX6_nestedByTrying_26 rfl (by decide) ?_
        refine w_goto C dX6_nestedByTrying_29 ?_
        refine Wm.lsub (lv' := [(0, aO 0 0), (2, aI (sumN w 16 : Nat)), (3, aI (z * (d + 2) : Nat)), (4, aI ((d + 1 : Nat) : Int))]) ⟨rfl, rfl, ?_, ?_, trivial⟩ (ih (z * (d + 2)) (by rw [← hz, Nat.mul_assoc]; rfl) (by omega))
        · exact congrArg (fun z : Int => some (aI z)) (by show (z : Int) * ((d + 1 + 1 : Nat) : Int) = ((z * (d + 2) : Nat) : Int); rw [Int.natCast_mul])
        · exact congrArg (fun z : Int => some (aI z)) (by omega)
  refine w_istore_n C dX6_nestedByTrying_9 (by decide) ?_
  refine w_iconst C dX6_nestedByTrying_10 ?_
  refine w_istore_n C dX6_nestedByTrying_11 (by decide) ?_
  refine w_iload_n C dX6_nestedByTrying_12 rfl ?_
  refine w_istore C dX6_nestedByTrying_13 (by decide) ?_
  obtain ⟨d, hd⟩ : ∃ d, sumN w 16 = d + 1 := ⟨sumN w 16 - 1, by omega⟩
  exact Wm.lsub (lv' := [(0, aO 0 0), (2, aI (sumN w 16 : Nat)), (3, aI ((1 : Nat) : Int)), (4, aI ((d + 1 : Nat) : Int))]) ⟨rfl, by rw [← hnw]; rfl, rfl, by rw [← hd, ← hnw]; rfl, trivial⟩ (L15 d 1 (by rw [Nat.one_mul, hd]) (by omega))
end Rm
