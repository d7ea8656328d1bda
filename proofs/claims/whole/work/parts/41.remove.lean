/-! Marker: moveToEnd, remove, empty -/
def rotF (f : Nat → Nat) (i k j : Nat) : Nat := if i ≤ j ∧ j < k then f (j + 1) else if j = k then f i else f j
def mvK (mi : Nat) : Nat → Nat → Prop := fun k i => k = 12 ∧ i = mi
theorem RepMF_erase {f : Nat → Nat} {mi i : Nat} {S : Sg} {P : List Pc} {nx : Nat} {M M3 M4 M5 M6 : Mem} {q : Pc} (hG : GInv S) (hmi2 : mi < 2) (hP : P.length ≤ 40) (hM : RepMF f mi S P nx M) (hI : PInv S P nx) (hq : P[i]? = some q) (hF : Fr (cvK mi) M M3) (hO : ∀ k, k < 720 → M3.1 22 mi k = if cv S q (k / 12) (k % 12) = true then -1 else M.1 22 mi k) (hT : ∀ u, u < 60 → M3.1 23 mi u = (bitsN (ovr S q (-1) (fun u v => decide (clo S P (12 * u + v) ≠ -1)) u) 12 : Nat)) (hM4 : M4 = if gpS S (pShp q) = 0 then M3 else uI M3 24 mi (gpS S (pShp q) - 1) (M3.1 24 mi (gpS S (pShp q) - 1) - 1)) (hF5 : Fr (mvK mi) M4 M5) (h51 : M5.1 = M4.1) (h52 : ∀ j, j < 40 → M5.2.1 12 mi j = some (40 * mi + rotF f i (P.length - 1) j)) (hM6 : M6 = uI M5 2 mi 1 (M5.1 2 mi 1 - 1)) : Fr (mkK mi) M M6 ∧ RepMF (rotF f i (P.length - 1)) mi S (P.eraseIdx i) nx M6 := by
  obtain ⟨a1, a2, ⟨b1, b2', b3⟩, a4, a5, a6, a7⟩ := hM
  have hi := (List.getElem?_eq_some_iff.mp hq).1
  have hg4 := (hG.2.2.2.2.2.2.2.2.2.1 (pShp q)).2.1
  have hlen : (P.eraseIdx i).length = P.length - 1 := List.length_eraseIdx_of_lt hi
  have h6i : ∀ k i' s, k ≠ 2 → k ≠ 24 → M6.1 k i' s = M3.1 k i' s := fun k i' s h1 h2 => by
    rw [hM6, uI_get, if_neg (fun z => h1 z.1), h51, hM4]
    split
    · rfl
    · rw [uI_get, if_neg (fun z => h2 z.1)]
  have h2 : ∀ s, M3.1 2 mi s = M.1 2 mi s := fun s => by rw [(hF 2 mi (by rintro ⟨h | h, -⟩ <;> exact absurd h (by decide))).1]
  have h42 : ∀ s, M5.1 2 mi s = M.1 2 mi s := fun s => by
    rw [h51, hM4]
    split
    · exact h2 s
    · rw [uI_get, if_neg (fun z => absurd z.1 (by decide))]
      exact h2 s
  have h24 : ∀ s, M3.1 24 mi s = M.1 24 mi s := fun s => by rw [(hF 24 mi (by rintro ⟨h | h, -⟩ <;> exact absurd h (by decide))).1]
  have h42' : M4.2 = M3.2 := by
    rw [hM4]
    split <;> rfl
  have hpc : ∀ {p : Pc} {id : Nat}, RepPc p id M → RepPc p id M6 := fun {p id} h => by
    have h3 := h.fr hF (by rintro ⟨h | h, -⟩ <;> exact absurd h (by decide))
    obtain ⟨c1, c2, c3, c4, c5, c6, c7⟩ := h3
    have e6 : ∀ s, M6.2.1 3 id s = M3.2.1 3 id s := fun s => by
      rw [hM6, uI_r, (hF5 3 id (fun z => absurd z.1 (by decide))).2.1, h42']
    refine ⟨?_, ?_, ?_, ?_, ?_, ?_, ?_⟩ <;> first | (rw [h6i _ _ _ (by decide) (by decide)]; assumption) | (rw [e6]; assumption)
  refine ⟨?_, ?_, ?_, ⟨fun j hj => ⟨?_, ?_⟩, fun j j' hj hj' he => ?_, fun j p hp => ?_⟩, fun k hk => ?_, fun u hu => ?_, fun g hg => ?_, fun p hp hg => ?_⟩
  · have f4 : Fr (mkK mi) M M4 := by
      have f3 : Fr (mkK mi) M M3 := hF.mono fun k i z => Or.inr ⟨by rcases z.1 with h | h <;> simp [h], z.2⟩
      rw [hM4]
      split
      · exact f3
      · exact f3.uI (Or.inr ⟨by simp, rfl⟩)
    rw [hM6]
    exact (f4.tr (hF5.mono fun k i z => Or.inr ⟨by simp [z.1], z.2⟩)).uI (Or.inr ⟨by simp, rfl⟩)
  · rw [hM6, uI_get, if_pos ⟨rfl, rfl, rfl⟩, h42, a1, hlen]
    omega
  · rw [hM6, uI_get, if_neg (fun z => absurd z.2.2 (by decide)), h42, a2]
  · unfold rotF
    split
    · exact (b1 _ (by omega)).1
    · split
      · exact (b1 _ (by omega)).1
      · exact (b1 _ hj).1
  · rw [hM6, uI_r]
    exact h52 j hj
  · have e : ∀ x, rotF f i (P.length - 1) x = f (if i ≤ x ∧ x < P.length - 1 then x + 1 else if x = P.length - 1 then i else x) := fun x => by
      unfold rotF
      split
      · rfl
      · split <;> rfl
    rw [e, e] at he
    have hb : ∀ x, x < 40 → (if i ≤ x ∧ x < P.length - 1 then x + 1 else if x = P.length - 1 then i else x) < 40 := fun x hx => by
      (repeat' split) <;> omega
    have h9 := b2' _ _ (hb j hj) (hb j' hj') he
    (repeat' split at h9) <;> omega
  · have hj := (List.getElem?_eq_some_iff.mp hp).1
    rw [hlen] at hj
    rw [List.getElem?_eraseIdx] at hp
    unfold rotF
    by_cases h : j < i
    · rw [if_pos h] at hp
      rw [if_neg (by omega), if_neg (by omega)]
      exact hpc (b3 j p hp)
    · rw [if_neg h] at hp
      rw [if_pos (by omega)]
      exact hpc (b3 (j + 1) p hp)
  · rw [h6i _ _ _ (by decide) (by decide), hO k hk, clo_erase hI.2.1 hq, a4 k hk]
  · rw [h6i _ _ _ (by decide) (by decide), hT u hu]
    refine congrArg (fun z : Nat => (z : Int)) (bitsN_cg fun v hv => ?_)
    have e9 : (12 * u + v) / 12 = u ∧ (12 * u + v) % 12 = v := by omega
    rw [clo_erase hI.2.1 hq, e9.1, e9.2]
    unfold ovr
    by_cases hc : cv S q u v = true
    · rw [if_pos hc, if_pos hc]
    · rw [if_neg hc, if_neg hc]
  · have h9 := inGr_erase (S := S) hq (g + 1)
    have ha := a6 g hg
    rw [hM6, uI_get, if_neg (fun z => absurd z.1 (by decide)), h51, hM4]
    by_cases h0 : gpS S (pShp q) = 0
    · rw [if_pos h0, h24]
      rw [if_neg (by omega)] at h9
      omega
    · rw [if_neg h0, uI_get]
      by_cases h1 : gpS S (pShp q) = g + 1
      · rw [if_pos ⟨rfl, rfl, by omega⟩, h24, h1, Nat.add_sub_cancel, ha]
        rw [if_pos h1] at h9
        omega
      · rw [if_neg (fun z => h1 (by have := z.2.2; omega)), h24, ha]
        rw [if_neg h1] at h9
        omega
  · rw [h6i _ _ _ (by decide) (by decide), (hF 25 mi (by rintro ⟨h | h, -⟩ <;> exact absurd h (by decide))).1]
    exact a7 p (mem_erase_lt hp) hg
theorem slot_at {P : List Pc} {z : Int} {i : Nat} (h : slotS P z = some i) : ∃ q, P[i]? = some q ∧ (pNum q : Int) = z ∧ i < P.length := by
  unfold slotS at h
  rw [List.findIdx?_eq_some_iff_getElem] at h
  obtain ⟨h1, h2, -⟩ := h
  exact ⟨P[i], List.getElem?_eq_getElem h1, of_decide_eq_true h2, h1⟩
section Mk
variable {l : Launch} {b0 : Nat → Prop} {ad : Ads} {ns nt : Nat} {M : Mem}
theorem c_X1_moveToEnd (hl : l.stackTraces = false) {mi n i : Nat} {f : Nat → Nat} (hmi : inD (cnt ns nt) 2 mi) (hn : M.1 2 mi 1 = n) (h40 : n ≤ 40) (hin : i < n) (hf : ∀ i, i < 40 → f i < 40 ∧ M.2.1 12 mi i = some (40 * mi + f i)) : Con l b0 yX1_moveToEnd cX1_moveToEnd 4 none 2 0 0 [aO 2 mi, aI i] ad (cnt ns nt) M (fun r9 M' => Fr (mvK mi) M M' ∧ M'.1 = M.1 ∧ (∀ j, j < 40 → M'.2.1 12 mi j = some (40 * mi + rotF f i (n - 1) j)) ∧ r9 = none) noX := by
  have i12 : inD (cnt ns nt) 12 mi := hmi
  have hmi2 : mi < 2 := hmi
  have i3 : ∀ x, x < 40 → inD (cnt ns nt) 3 (40 * mi + x) := fun x hx => by
    show 40 * mi + x < 80
    omega
  refine Con.of hl pl_X1 (Nat.le_of_ble_eq_true rfl) ?_
  intro D cA p e s m args below meth c C hr
  have loop : ∀ (b k : Nat) (M1 : Mem), k + b = n - 1 → i ≤ k → Fr (mvK mi) M M1 → M1.1 = M.1 → (∀ j, j < 40 → M1.2.1 12 mi j = some (40 * mi + rotF f i k j)) → Wm p l e (rmd 2 0 0) s m args below meth c 4 D cA b0 0 0 (vx_MQ below (mQ D cA b0 ad (cnt ns nt) (fun r9 M' => Fr (mvK mi) M M' ∧ M'.1 = M.1 ∧ (∀ j, j < 40 → M'.2.1 12 mi j = some (40 * mi + rotF f i (n - 1) j)) ∧ r9 = none)) (mX D cA b0 ad (cnt ns nt) noX) args s 0 0 b0) 6 [(0, aO 2 mi), (1, aI i), (2, aI k)] [] ad (cnt ns nt) M1 := by
    intro b
    induction b with
    | zero =>
      intro k M1 hk hik hF h1 h2
      refine w_iload_n C dX1_moveToEnd_6 rfl ?_
      refine w_iconst C dX1_moveToEnd_7 ?_
      refine w_iadd C dX1_moveToEnd_8 ?_
      refine w_aload_n C dX1_moveToEnd_9 rfl ?_
      refine g_X1_40 C dX1_moveToEnd_10 (by first | assumption | exact Nat.zero_lt_one | exact Nat.zero_lt_two | exact Nat.one_lt_two) ?_
      rw [h1, hn]
      refine w_icmp_ge C dX1_moveToEnd_13 (by omega) (by omega) (fun h13 => ?_) (fun h13 => ?_)
      · refine w_vret C hr dX1_moveToEnd_63 (⟨hF, h1, fun j hj => by rw [h2 j hj, show k = n - 1 by omega], rfl⟩) (by decide) (by decide)
      · omega
    | succ b ih =>
      intro k M1 hk hik hF h1 h2
      refine w_iload_n C dX1_moveToEnd_6 rfl ?_
      refine w_iconst C dX1_moveToEnd_7 ?_
      refine w_iadd C dX1_moveToEnd_8 ?_
      refine w_aload_n C dX1_moveToEnd_9 rfl ?_
      refine g_X1_40 C dX1_moveToEnd_10 (by first | assumption | exact Nat.zero_lt_one | exact Nat.zero_lt_two | exact Nat.one_lt_two) ?_
      rw [h1, hn]
      refine w_icmp_ge C dX1_moveToEnd_13 (by omega) (by omega) (fun h13 => ?_) (fun h13 => ?_)
      · omega
      · refine w_iload_n C dX1_moveToEnd_16 rfl ?_
        refine w_iconst C dX1_moveToEnd_17 ?_
        refine w_iadd C dX1_moveToEnd_18 ?_
        refine w_aload_n C dX1_moveToEnd_19 rfl ?_
        refine g_X1_11 C dX1_moveToEnd_20 (by first | assumption | exact Nat.zero_lt_one | exact Nat.zero_lt_two | exact Nat.one_lt_two) ?_
        refine w_alen C dX1_moveToEnd_23 i12 (Or.inr (Or.inr (Or.inr ⟨7, 3, by decide, RA_12⟩))) ?_
        refine w_icmp_ge C dX1_moveToEnd_24 (by omega) (by omega) (fun h24 => ?_) (fun h24 => ?_)
        · omega
        · have ek : rotF f i k k = f i := by
            unfold rotF
            rw [if_neg (by omega), if_pos rfl]
          have ek1 : rotF f i k (k + 1) = f (k + 1) := by
            unfold rotF
            rw [if_neg (by omega), if_neg (by omega)]
          refine w_aload_n C dX1_moveToEnd_27 rfl ?_
          refine g_X1_11 C dX1_moveToEnd_28 (by first | assumption | exact Nat.zero_lt_one | exact Nat.zero_lt_two | exact Nat.one_lt_two) ?_
          refine w_iload_n C dX1_moveToEnd_31 rfl ?_
          refine w_aald C dX1_moveToEnd_32 i12 RA_12 rfl (by omega) ?_
          rw [Int.toNat_natCast, h2 k (by omega), ek]
          refine Wm.top (v' := aO 3 (40 * mi + f i)) rfl ?_
          refine w_astore_n C dX1_moveToEnd_33 (by decide) ?_
          refine w_aload_n C dX1_moveToEnd_34 rfl ?_
          refine g_X1_11 C dX1_moveToEnd_35 (by first | assumption | exact Nat.zero_lt_one | exact Nat.zero_lt_two | exact Nat.one_lt_two) ?_
          refine w_iload_n C dX1_moveToEnd_38 rfl ?_
          refine w_aload_n C dX1_moveToEnd_39 rfl ?_
          refine g_X1_11 C dX1_moveToEnd_40 (by first | assumption | exact Nat.zero_lt_one | exact Nat.zero_lt_two | exact Nat.one_lt_two) ?_
          refine w_iload_n C dX1_moveToEnd_43 rfl ?_
          refine w_iconst C dX1_moveToEnd_44 ?_
          refine w_iadd C dX1_moveToEnd_45 ?_
          refine w_aald C dX1_moveToEnd_46 i12 RA_12 rfl (by omega) ?_
          rw [show ((k : Int) + 1).toNat = k + 1 by omega, h2 (k + 1) (by omega), ek1]
          refine Wm.top (v' := aO 3 (40 * mi + f (k + 1))) rfl ?_
          refine w_aast (ci := 3) C dX1_moveToEnd_47 i12 RA_12 rfl rfl (fun _ => rfl) (i3 _ (hf _ (by omega)).1) rfl (by omega) ?_
          refine w_aload_n C dX1_moveToEnd_48 rfl ?_
          refine g_X1_11 C dX1_moveToEnd_49 (by first | assumption | exact Nat.zero_lt_one | exact Nat.zero_lt_two | exact Nat.one_lt_two) ?_
          refine w_iload_n C dX1_moveToEnd_52 rfl ?_
          refine w_iconst C dX1_moveToEnd_53 ?_
          refine w_iadd C dX1_moveToEnd_54 ?_
          refine w_aload_n C dX1_moveToEnd_55 rfl ?_
          refine w_aast (ci := 3) C dX1_moveToEnd_56 i12 RA_12 rfl rfl (fun _ => rfl) (i3 _ (hf _ (by omega)).1) rfl (by omega) ?_
          refine w_iinc C dX1_moveToEnd_57 rfl (by decide) ?_
          refine w_goto C dX1_moveToEnd_60 ?_
          refine Wm.lsub (lv' := [(0, aO 2 mi), (1, aI i), (2, aI ((k + 1 : Nat) : Int))]) ⟨rfl, rfl, rfl, trivial⟩ (ih (k + 1) _ (by omega) (by omega) ((hF.uR ⟨rfl, rfl⟩).uR ⟨rfl, rfl⟩) h1 (fun j hj => ?_))
          rw [show ((k : Int) + 1).toNat = k + 1 by omega, Int.toNat_natCast, uR_get, uR_get]
          by_cases c1 : j = k + 1
          · rw [if_pos ⟨rfl, rfl, c1⟩]
            unfold rotF
            rw [if_neg (by omega), if_pos c1]
          · rw [if_neg (fun q => c1 q.2.2)]
            by_cases c2 : j = k
            · rw [if_pos ⟨rfl, rfl, c2⟩]
              unfold rotF
              rw [if_pos (by omega), c2]
            · rw [if_neg (fun q => c2 q.2.2), h2 j hj]
              refine congrArg (fun z => some (40 * mi + z)) ?_
              unfold rotF
              by_cases c3 : i ≤ j ∧ j < k
              · rw [if_pos c3, if_pos (by omega)]
              · rw [if_neg c3, if_neg c2, if_neg (by omega), if_neg c1]
  refine w_iload_n C dX1_moveToEnd_0 rfl ?_
  refine w_iconst C dX1_moveToEnd_1 ?_
  refine w_mmax C lk_X1_174 dX1_moveToEnd_2 (by omega) (by omega) ⟨by decide, by decide, by decide, by decide⟩ (Nat.le_of_ble_eq_true rfl) ?_
  rw [show max (i : Int) 0 = i by omega]
  refine w_istore_n C dX1_moveToEnd_5 (by decide) ?_
  refine Wm.lsub (lv' := [(0, aO 2 mi), (1, aI i), (2, aI i)]) ⟨rfl, rfl, rfl, trivial⟩ (loop (n - 1 - i) i M (by omega) (Nat.le_refl _) Fr.rf rfl (fun j hj => ?_))
  rw [(hf j hj).2]
  refine congrArg (fun z => some (40 * mi + z)) ?_
  unfold rotF
  rw [if_neg (by omega)]
  split
  · rename_i h; rw [h]
  · rfl
theorem c_X1_remove (hl : l.stackTraces = false) {S : Sg} {P : List Pc} {nx mi i : Nat} (hG : GInv S) (hmi : inD (cnt ns nt) 2 mi) (hP : P.length ≤ 40) (hSh : RepSh S M) (hM : RepMk mi S P nx M) (hI : PInv S P nx) (hns : nsS S ≤ ns) (hnx : nx < 1000000) (z : Int) (hz : -2147483648 ≤ z ∧ z ≤ 2147483647) (hs : slotS P z = some i) : Con l b0 yX1_remove cX1_remove 4 none 3 0 0 [aO 2 mi, aI z] ad (cnt ns nt) M (fun r9 M' => Fr (mkK mi) M M' ∧ RepMk mi S (P.eraseIdx i) nx M' ∧ r9 = none) noX := by
  obtain ⟨f, hM⟩ := hM
  have hM' := hM
  obtain ⟨a1, a2, ⟨b1, b2', b3⟩, a4, a5, a6, a7⟩ := hM'
  obtain ⟨q, hq, hqz, hi⟩ := slot_at hs
  have hmi2 : mi < 2 := hmi
  obtain ⟨-, hqm, hqr, i3⟩ := pc_at hM hmi hP hq
  obtain ⟨i1, i2, i4, i5, i6, i7, i8, i9⟩ := hI.1 q hqm
  have hqr' := hqr
  obtain ⟨r1, r2, r3, r4, r5, r6, r7⟩ := hqr'
  obtain ⟨⟨s1, s2, s3, s4, s5, s6, s7, s8⟩, -, s9⟩ := hSh (pShp q) i1
  have hcs := cols12 hG
  obtain ⟨p1, p2, p3⟩ := hG.2.2.2.2.2.2.2.2.2.1 (pShp q)
  obtain ⟨o1, o2, o3, o4, o5, o6⟩ := ou_at (nt := nt) hSh i1 hns i4 i5 i2
  obtain ⟨k0, hk0, hd0⟩ := s8.mp i2
  obtain ⟨x1, x2, x3, x4⟩ := hgt_cell (d := dB S (pShp q)) (t := pTrn q) (mi := pMir q) ⟨k0, hk0, hd0⟩
  obtain ⟨y1, y2, y3, y4⟩ := wid_cell (d := dB S (pShp q)) (t := pTrn q) (mi := pMir q) ⟨k0, hk0, hd0⟩
  have hsh4 : inD (cnt ns nt) 4 (pShp q) := by
    show pShp q < ns
    omega
  refine Con.of hl pl_X1 (Nat.le_of_ble_eq_true rfl) ?_
  intro D cA p e s m args below meth c C hr
  refine w_aload_n C dX1_remove_0 rfl ?_
  refine w_iload_n C dX1_remove_1 rfl ?_
  refine w_callV C dX1_remove_2 (c_X1_slotOf hl hmi hP hM (fun p hp => by have := (hI.1 p hp).2.2.2.2.2.1; omega) z hz) mX1_slotOf vX1_slotOf lk_X1_51 (by first | assumption | exact Nat.zero_lt_one | exact Nat.zero_lt_two | exact Nat.one_lt_two) rfl rfl rfl rfl ⟨by decide, by decide, by decide, by decide⟩ (Nat.le_of_ble_eq_true rfl) (fun _ _ h => h.elim) ⟨by decide, by decide⟩ (fun r_ M_ q2 => ?_)
  obtain ⟨rfl, rfl⟩ := q2
  rw [hs]
  refine Wm.top (v' := aI (i : Int)) rfl ?_
  refine w_istore_n C dX1_remove_5 (by decide) ?_
  refine w_aload_n C dX1_remove_6 rfl ?_
  refine w_iload_n C dX1_remove_7 rfl ?_
  refine w_callV C dX1_remove_8 (c_X1_pieceIn hl hmi a1 hP b1 (i : Int) (by omega)) mX1_pieceIn vX1_pieceIn lk_X1_44 (by first | assumption | exact Nat.zero_lt_one | exact Nat.zero_lt_two | exact Nat.one_lt_two) rfl rfl rfl rfl ⟨by decide, by decide, by decide, by decide⟩ (Nat.le_of_ble_eq_true rfl) (fun _ _ h => h.elim) ⟨by decide, by decide⟩ (fun r_ M_ q8 => ?_)
  obtain ⟨rfl, rfl⟩ := q8
  rw [if_pos (by omega), Int.toNat_natCast]
  refine Wm.top (v' := aO 3 (40 * mi + f i)) rfl ?_
  refine w_astore_n C dX1_remove_11 (by decide) ?_
  refine w_aload_n C dX1_remove_12 rfl ?_
  refine w_ifnull C dX1_remove_13 (fun h13 => ?_) (fun h13 => ?_)
  · cases h13
  · refine w_aload_n C dX1_remove_16 rfl ?_
    refine g_X1_136 C dX1_remove_17 (by first | assumption | exact Nat.zero_lt_one | exact Nat.zero_lt_two | exact Nat.one_lt_two) ?_
    rw [r3]
    refine Wm.top (v' := aO 5 (8 * pShp q + (pTrn q + 4 * pMir q))) rfl ?_
    refine w_ifnull C dX1_remove_20 (fun h20 => ?_) (fun h20 => ?_)
    · cases h20
    · refine w_aload_n C dX1_remove_23 rfl ?_
      refine g_X1_132 C dX1_remove_24 (by first | assumption | exact Nat.zero_lt_one | exact Nat.zero_lt_two | exact Nat.one_lt_two) ?_
      rw [r2]
      refine Wm.top (v' := aO 4 (pShp q)) rfl ?_
      refine w_ifnonnull C dX1_remove_27 (fun h27 => ?_) (fun h27 => ?_)
      · refine w_aload_n C dX1_remove_31 rfl ?_
        refine w_aload_n C dX1_remove_32 rfl ?_
        refine g_X1_136 C dX1_remove_33 (by first | assumption | exact Nat.zero_lt_one | exact Nat.zero_lt_two | exact Nat.one_lt_two) ?_
        rw [r3]
        refine Wm.top (v' := aO 5 (8 * pShp q + (pTrn q + 4 * pMir q))) rfl ?_
        refine w_aload_n C dX1_remove_36 rfl ?_
        refine g_X1_143 C dX1_remove_37 (by first | assumption | exact Nat.zero_lt_one | exact Nat.zero_lt_two | exact Nat.one_lt_two) ?_
        rw [r5]
        refine w_aload_n C dX1_remove_40 rfl ?_
        refine g_X1_146 C dX1_remove_41 (by first | assumption | exact Nat.zero_lt_one | exact Nat.zero_lt_two | exact Nat.one_lt_two) ?_
        rw [r6]
        refine w_iconst C dX1_remove_44 ?_
        refine w_callV C dX1_remove_45 (c_X1_cover hl (q := q) (g := fun u v => decide (clo S P (12 * u + v) ≠ -1)) hmi o1 o2 o3 o4 i8 (by omega) (by omega) (by omega) a5 (-1) (by omega)) mX1_cover vX1_cover lk_X1_152 (by first | assumption | exact Nat.zero_lt_one | exact Nat.zero_lt_two | exact Nat.one_lt_two) rfl rfl rfl rfl ⟨by decide, by decide, by decide, by decide⟩ (Nat.le_of_ble_eq_true rfl) (fun _ _ h => h.elim) ⟨by decide, by decide⟩ (fun r_ M3 q45 => ?_)
        obtain ⟨hF3, hO3, hT3, rfl⟩ := q45
        have n3 : ∀ {k i : Nat}, k ≠ 22 → k ≠ 23 → ¬ cvK mi k i := fun h2 h3 q => by
          rcases q.1 with q | q
          · exact h2 q
          · exact h3 q
        refine w_aload_n C dX1_remove_48 rfl ?_
        refine w_aload_n C dX1_remove_49 rfl ?_
        refine g_X1_132 C dX1_remove_50 (by first | assumption | exact Nat.zero_lt_one | exact Nat.zero_lt_two | exact Nat.one_lt_two) ?_
        rw [(hF3 3 _ (n3 (by decide) (by decide))).2.1, r2]
        refine Wm.top (v' := aO 4 (pShp q)) rfl ?_
        refine g_X1_92 C dX1_remove_53 (by first | assumption | exact Nat.zero_lt_one | exact Nat.zero_lt_two | exact Nat.one_lt_two) ?_
        rw [(hF3 4 _ (n3 (by decide) (by decide))).1, s4]
        refine w_callV C dX1_remove_56 (c_X1_leave hl hmi (gpS S (pShp q)) p2) mX1_leave vX1_leave lk_X1_167 (by first | assumption | exact Nat.zero_lt_one | exact Nat.zero_lt_two | exact Nat.one_lt_two) rfl rfl rfl rfl ⟨by decide, by decide, by decide, by decide⟩ (Nat.le_of_ble_eq_true rfl) (fun _ _ h => h.elim) ⟨by decide, by decide⟩ (fun r_ M4 q56 => ?_)
        obtain ⟨q56, rfl⟩ := q56
        have h421 : M4.2 = M3.2 := by
          rw [q56]
          split <;> rfl
        have h4c : M4.1 2 mi 1 = P.length := by
          rw [q56]
          split
          · rw [(hF3 2 _ (n3 (by decide) (by decide))).1]
            exact a1
          · rw [uI_get, if_neg (fun z => absurd z.1 (by decide)), (hF3 2 _ (n3 (by decide) (by decide))).1]
            exact a1
        refine w_aload_n C dX1_remove_59 rfl ?_
        refine w_iload_n C dX1_remove_60 rfl ?_
        refine w_callV C dX1_remove_61 (c_X1_moveToEnd hl hmi h4c hP hi (f := f) (fun k hk => ⟨(b1 k hk).1, by rw [h421, (hF3 12 _ (n3 (by decide) (by decide))).2.1]; exact (b1 k hk).2⟩)) mX1_moveToEnd vX1_moveToEnd lk_X1_171 (by first | assumption | exact Nat.zero_lt_one | exact Nat.zero_lt_two | exact Nat.one_lt_two) rfl rfl rfl rfl ⟨by decide, by decide, by decide, by decide⟩ (Nat.le_of_ble_eq_true rfl) (fun _ _ h => h.elim) ⟨by decide, by decide⟩ (fun r_ M5 q61 => ?_)
        obtain ⟨hF5, h51, h52, rfl⟩ := q61
        refine w_aload_n C dX1_remove_64 rfl ?_
        refine w_dup C dX1_remove_65 rfl ?_
        refine g_X1_40 C dX1_remove_66 (by first | assumption | exact Nat.zero_lt_one | exact Nat.zero_lt_two | exact Nat.one_lt_two) ?_
        refine w_iconst C dX1_remove_69 ?_
        refine w_isub C dX1_remove_70 ?_
        refine p_X1_40 C dX1_remove_71 (by first | assumption | exact Nat.zero_lt_one | exact Nat.zero_lt_two | exact Nat.one_lt_two) ?_
        obtain ⟨g1, g2⟩ := RepMF_erase hG hmi2 hP hM hI hq hF3 (fun k hk => hO3 k hk) hT3 q56 hF5 h51 h52 rfl
        refine w_vret C hr dX1_remove_74 (⟨g1, ⟨_, g2⟩, rfl⟩) (by decide) (by decide)
      · cases h27
theorem c_X1_empty (hl : l.stackTraces = false) {S : Sg} {mi : Nat} {f : Nat → Nat} (hmi : inD (cnt ns nt) 2 mi) (hf : (∀ i, i < 40 → f i < 40 ∧ M.2.1 12 mi i = some (40 * mi + f i)) ∧ (∀ i j, i < 40 → j < 40 → f i = f j → i = j)) : Con l b0 yX1_empty cX1_empty 1 none 2 0 0 [aO 2 mi] ad (cnt ns nt) M (fun r9 M' => Fr (mkK mi) M M' ∧ RepMF f mi S [] 0 M' ∧ r9 = none) noX := by
  have i22 : inD (cnt ns nt) 22 mi := hmi
  have i23 : inD (cnt ns nt) 23 mi := hmi
  have i24 : inD (cnt ns nt) 24 mi := hmi
  refine Con.of hl pl_X1 (Nat.le_of_ble_eq_true rfl) ?_
  intro D cA p e s m args below meth c C hr
  refine w_aload_n C dX1_empty_0 rfl ?_
  refine w_iconst C dX1_empty_1 ?_
  refine p_X1_40 C dX1_empty_2 (by first | assumption | exact Nat.zero_lt_one | exact Nat.zero_lt_two | exact Nat.one_lt_two) ?_
  refine w_aload_n C dX1_empty_5 rfl ?_
  refine w_iconst C dX1_empty_6 ?_
  refine p_X1_129 C dX1_empty_7 (by first | assumption | exact Nat.zero_lt_one | exact Nat.zero_lt_two | exact Nat.one_lt_two) ?_
  refine w_aload_n C dX1_empty_10 rfl ?_
  refine g_X1_18 C dX1_empty_11 (by first | assumption | exact Nat.zero_lt_one | exact Nat.zero_lt_two | exact Nat.one_lt_two) ?_
  refine w_iconst C dX1_empty_14 ?_
  refine w_callS C dX1_empty_15 (c_J7_fill hl IA_22 i22 (-1)) mJ7_fill_53178 sJ7_fill_53178 lk_X1_22 rfl rfl ⟨by decide, by decide, by decide, by decide⟩ (Nat.le_of_ble_eq_true rfl) (fun _ _ h => h.elim) ⟨by decide, by decide⟩ (fun r_ M1 q15 => ?_)
  obtain ⟨f1, e1, v1, -, rfl⟩ := q15
  refine w_aload_n C dX1_empty_18 rfl ?_
  refine g_X1_28 C dX1_empty_19 (by first | assumption | exact Nat.zero_lt_one | exact Nat.zero_lt_two | exact Nat.one_lt_two) ?_
  refine w_iconst C dX1_empty_22 ?_
  refine w_callS C dX1_empty_23 (c_J7_fill hl IA_23 i23 0) mJ7_fill_53178 sJ7_fill_53178 lk_X1_22 rfl rfl ⟨by decide, by decide, by decide, by decide⟩ (Nat.le_of_ble_eq_true rfl) (fun _ _ h => h.elim) ⟨by decide, by decide⟩ (fun r_ M2 q23 => ?_)
  obtain ⟨f2, e2, v2, -, rfl⟩ := q23
  refine w_aload_n C dX1_empty_26 rfl ?_
  refine g_X1_31 C dX1_empty_27 (by first | assumption | exact Nat.zero_lt_one | exact Nat.zero_lt_two | exact Nat.one_lt_two) ?_
  refine w_iconst C dX1_empty_30 ?_
  refine w_callS C dX1_empty_31 (c_J7_fill hl IA_24 i24 0) mJ7_fill_53178 sJ7_fill_53178 lk_X1_22 rfl rfl ⟨by decide, by decide, by decide, by decide⟩ (Nat.le_of_ble_eq_true rfl) (fun _ _ h => h.elim) ⟨by decide, by decide⟩ (fun r_ M3 q31 => ?_)
  obtain ⟨f3, e3, v3, -, rfl⟩ := q31
  have g2 : ∀ s, M3.1 2 mi s = (uI (uI M 2 mi 1 0) 2 mi 2 0).1 2 mi s := fun s => by
    rw [(f3 2 mi (fun z => absurd z.1 (by decide))).1, (f2 2 mi (fun z => absurd z.1 (by decide))).1, (f1 2 mi (fun z => absurd z.1 (by decide))).1]
  refine w_vret C hr dX1_empty_34 (⟨?_, ⟨?_, ?_, ⟨fun i hi => ⟨(hf.1 i hi).1, ?_⟩, hf.2, fun i p hp => by cases hp⟩, fun k hk => ?_, fun u hu => ?_, fun g hg => ?_, fun p hp => by cases hp⟩, rfl⟩) (by decide) (by decide)
  · have h2 : mkK mi 2 mi := Or.inr ⟨Or.inl rfl, rfl⟩
    refine (((Fr.uI (Fr.uI Fr.rf h2) h2).tr (f1.mono ?_)).tr (f2.mono ?_)).tr (f3.mono ?_)
    · rintro k i ⟨rfl, rfl⟩
      exact Or.inr ⟨by simp, rfl⟩
    · rintro k i ⟨rfl, rfl⟩
      exact Or.inr ⟨by simp, rfl⟩
    · rintro k i ⟨rfl, rfl⟩
      exact Or.inr ⟨by simp, rfl⟩
  · rw [g2, uI_get, if_neg (by simp), uI_get, if_pos ⟨rfl, rfl, rfl⟩]
    rfl
  · rw [g2, uI_get, if_pos ⟨rfl, rfl, rfl⟩]
    rfl
  · rw [e3, e2, e1]
    exact (hf.1 i hi).2
  · rw [(f3 22 mi (fun z => absurd z.1 (by decide))).1, (f2 22 mi (fun z => absurd z.1 (by decide))).1, v1 k hk]
    rfl
  · rw [(f3 23 mi (fun z => absurd z.1 (by decide))).1, v2 u hu]
    rfl
  · rw [v3 g hg]
    rfl
end Mk
