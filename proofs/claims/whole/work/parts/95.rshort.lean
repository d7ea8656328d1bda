/-! the room: the least length by trying the kinds one after another -/
section Rm
variable {l : Launch} {b0 : Nat → Prop} {ad : Ads} {ns nt : Nat} {M : Mem}
def cN : Nat → Nat
  | 0 => 0
  | n + 1 => 16 * (1 + cN n)
def Wt (w : Nat → Nat) (M : Mem) : Prop := ∀ k, k < 16 → M.1 27 0 k = w k
/-- the value of a kind among those that are left -/
def kV (S : Sg) (n : Nat) (w : Nat → Nat) (Q : List Pc) (k : Nat) : Nat := if zF S Q (k / 2) (k % 2) ≠ -1 then minN S n (dec1 w k) (Q ++ [pcK 0 k (zF S Q (k / 2) (k % 2))]) else 61
def ShP (l : Launch) (b0 : Nat → Prop) (ns nt : Nat) (ad : Ads) (S : Sg) (n : Nat) : Prop := ∀ (M : Mem) (w : Nat → Nat) (Q : List Pc) (q lim : Nat), RB S M → RepMk 1 S Q q M → PInv S Q q → Q.length + n < 40 → q + cN n < 1000000 → Wt w M → (∀ k, k < 16 → w k ≤ 4) → lim ≤ 61 →
  Con l b0 yX6_shortest cX6_shortest 5 (some .int) (2 * n + 7) 0 (6 * 0) [aO 0 0, aI n, aI lim] ad (cnt ns nt) M (fun r M' => Fr tK M M' ∧ (∃ q', q ≤ q' ∧ q' ≤ q + cN n ∧ RepMk 1 S Q q' M') ∧ Wt w M' ∧ r = some (aI (min lim (minN S n w Q) : Nat))) noX
theorem c_X6_shortestWith (hl : l.stackTraces = false) {S : Sg} (hG : GInv S) (hZ : ∀ j, nsS S ≤ j → szS S j = 0) (hns : nsS S ≤ ns) {n : Nat} (ih : ShP l b0 ns nt ad S n) {w : Nat → Nat} {Q : List Pc} {q lim : Nat} (hB : RB S M) (hT : RepMk 1 S Q q M) (hI : PInv S Q q) (hQ : Q.length + (n + 1) < 40) (hq : q + (1 + cN n) < 1000000) (hW : Wt w M) (hw4 : ∀ k, k < 16 → w k ≤ 4) (hlim : lim ≤ 61) (k : Nat) (hk : k < 16) (hwk : 0 < w k) :
    Con l b0 yX6_shortestWith cX6_shortestWith 6 (some .int) (2 * n + 8) 0 (6 * 0) [aO 0 0, aI k, aI ((n + 1 : Nat) : Int), aI lim] ad (cnt ns nt) M (fun r M' => Fr tK M M' ∧ (∃ q', q ≤ q' ∧ q' ≤ q + (1 + cN n) ∧ RepMk 1 S Q q' M') ∧ Wt w M' ∧ r = some (aI (min lim (kV S n w Q k) : Nat))) noX := by
  have i21 : inD (cnt ns nt) 2 1 := Nat.one_lt_two
  have i27 : inD (cnt ns nt) 27 0 := Nat.zero_lt_one
  have mK : ∀ {M1 M2 : Mem}, Fr (mkK 1) M1 M2 → Fr tK M1 M2 := fun h => h.mono (fun k i h => Or.inl h)
  have m27 : ∀ {M1 M2 : Mem}, Fr (mkK 1) M1 M2 → M2.1 27 0 = M1.1 27 0 := fun h => (h 27 0 (fun q => by unfold mkK at q; omega)).1
  have hn4 := hw4 k hk
  have hl60 := lenR_le S (Q ++ [pcK q k (zF S Q (k / 2) (k % 2))])
  have eN : eqN (Q ++ [pcK q k (zF S Q (k / 2) (k % 2))]) (Q ++ [pcK 0 k (zF S Q (k / 2) (k % 2))]) := eqN.app rfl q 0 k _
  refine Con.of hl pl_X6 (Nat.le_of_ble_eq_true rfl) ?_
  intro D cA p e s m args below meth c C hr
  have tail : ∀ (M1 : Mem) (q1 v : Nat), Fr tK M M1 → RepMk 1 S (Q ++ [pcK q k (zF S Q (k / 2) (k % 2))]) q1 M1 → PInv S (Q ++ [pcK q k (zF S Q (k / 2) (k % 2))]) q1 → q ≤ q1 → q1 ≤ q + (1 + cN n) → Wt w M1 → v = min lim (kV S n w Q k) → Wm p l e (rmd (2 * n + 8) 0 (6 * 0)) s m args below meth c 6 D cA b0 0 0 (vx_MQ below (mQ D cA b0 ad (cnt ns nt) (fun r M' => Fr tK M M' ∧ (∃ q', q ≤ q' ∧ q' ≤ q + (1 + cN n) ∧ RepMk 1 S Q q' M') ∧ Wt w M' ∧ r = some (aI (min lim (kV S n w Q k) : Nat)))) (mX D cA b0 ad (cnt ns nt) noX) args s 0 (6 * 0) b0) 75 [(0, aO 0 0), (1, aI k), (3, aI lim), (4, aI q), (5, aI v)] [] ad (cnt ns nt) M1 := by
    intro M1 q1 v hF hT1 hI1 hq1 hq2 hW1 hv
    refine w_aload_n C dX6_shortestWith_75 rfl ?_
    refine g_X6_35 C dX6_shortestWith_76 (by first | assumption | exact Nat.zero_lt_one | exact Nat.zero_lt_two | exact Nat.one_lt_two) ?_
    refine w_iload C dX6_shortestWith_79 rfl ?_
    refine w_callV C dX6_shortestWith_81 (c_X1_remove hl hG i21 (by rw [List.length_append]; show Q.length + 1 ≤ 40; omega) (hB.fr hF).2.1 hT1 hI1 hns (by omega) (q : Int) (by omega) (slot_last hI _ rfl)) mX1_remove vX1_remove lk_X6_216 (by first | assumption | exact Nat.zero_lt_one | exact Nat.zero_lt_two | exact Nat.one_lt_two) rfl rfl rfl rfl ⟨by first | decide | (simp only [rmd]; omega), by first | decide | (simp only [rmd]; omega), by first | decide | (simp only [rmd]; omega), by first | decide | (simp only [rmd]; omega)⟩ (Nat.le_of_ble_eq_true rfl) (fun _ _ h => h.elim) ⟨by decide, by decide⟩ (fun r_ M2 q81 => ?_)
    obtain ⟨a1, a2, rfl⟩ := q81
    rw [erase_last] at a2
    refine w_iload C dX6_shortestWith_84 rfl ?_
    subst hv
    refine w_iret C hr dX6_shortestWith_86 rfl (⟨hF.tr (mK a1), ⟨q1, hq1, hq2, a2⟩, fun i hi => by rw [m27 a1]; exact hW1 i hi, rfl⟩) (by decide) (by decide)
  refine w_aload_n C dX6_shortestWith_0 rfl ?_
  refine w_iload_n C dX6_shortestWith_1 rfl ?_
  refine w_callV C dX6_shortestWith_2 (c_X6_nestInTrial hl hG hZ hns hB hT hI (by omega) (by omega) k hk) mX6_nestInTrial vX6_nestInTrial lk_X6_350 (by first | assumption | exact Nat.zero_lt_one | exact Nat.zero_lt_two | exact Nat.one_lt_two) rfl rfl rfl rfl ⟨by first | decide | (simp only [rmd]; omega), by first | decide | (simp only [rmd]; omega), by first | decide | (simp only [rmd]; omega), by first | decide | (simp only [rmd]; omega)⟩ (Nat.le_of_ble_eq_true rfl) (fun _ _ h => h.elim) ⟨by decide, by decide⟩ (fun r_ M2 q2 => ?_)
  rcases q2 with ⟨z1, rfl, rfl⟩ | ⟨z1, z2, z3, z4, rfl⟩
  · refine w_istore C dX6_shortestWith_5 (by decide) ?_
    refine w_iload C dX6_shortestWith_7 rfl ?_
    refine w_iconst C dX6_shortestWith_9 ?_
    refine w_icmp_ne C dX6_shortestWith_10 (by omega) (by omega) (fun h10 => ?_) (fun h10 => ?_)
    · omega
    · refine w_iload_n C dX6_shortestWith_13 rfl ?_
      refine w_iret C hr dX6_shortestWith_14 rfl (⟨Fr.rf, ⟨q, by omega, by omega, hT⟩, hW, by unfold kV; rw [if_neg (fun h => h z1), Nat.min_eq_left hlim]⟩) (by decide) (by decide)
  · have hB2 := hB.fr (mK z2)
    have hW2 : Wt w M2 := fun i hi => by rw [m27 z2]; exact hW i hi
    have ekV : kV S n w Q k = minN S n (dec1 w k) (Q ++ [pcK q k (zF S Q (k / 2) (k % 2))]) := by
      unfold kV
      rw [if_pos z1]
      exact minN_cg (fun _ _ => rfl) eN.symm
    have hge : lenR S (Q ++ [pcK q k (zF S Q (k / 2) (k % 2))]) ≤ kV S n w Q k := by
      rw [ekV]
      exact minN_ge
    refine w_istore C dX6_shortestWith_5 (by decide) ?_
    refine w_iload C dX6_shortestWith_7 rfl ?_
    refine w_iconst C dX6_shortestWith_9 ?_
    refine w_icmp_ne C dX6_shortestWith_10 (by omega) (by omega) (fun h10 => ?_) (fun h10 => ?_)
    · obtain ⟨f, hMF⟩ := z3
      refine w_iload_n C dX6_shortestWith_15 rfl ?_
      refine w_istore C dX6_shortestWith_16 (by decide) ?_
      refine w_aload_n C dX6_shortestWith_18 rfl ?_
      refine g_X6_35 C dX6_shortestWith_19 (by first | assumption | exact Nat.zero_lt_one | exact Nat.zero_lt_two | exact Nat.one_lt_two) ?_
      refine w_callV C dX6_shortestWith_22 (c_X1_rowsUsed hl i21 hMF) mX1_rowsUsed vX1_rowsUsed lk_X6_219 (by first | assumption | exact Nat.zero_lt_one | exact Nat.zero_lt_two | exact Nat.one_lt_two) rfl rfl rfl rfl ⟨by first | decide | (simp only [rmd]; omega), by first | decide | (simp only [rmd]; omega), by first | decide | (simp only [rmd]; omega), by first | decide | (simp only [rmd]; omega)⟩ (Nat.le_of_ble_eq_true rfl) (fun _ _ h => h.elim) ⟨by decide, by decide⟩ (fun r_ M_ q22 => ?_)
      obtain ⟨rfl, rfl⟩ := q22
      refine w_iload_n C dX6_shortestWith_25 rfl ?_
      refine w_icmp_ge C dX6_shortestWith_26 (by omega) (by omega) (fun h26 => ?_) (fun h26 => ?_)
      · exact Wm.lsub (lv' := [(0, aO 0 0), (1, aI k), (3, aI lim), (4, aI q), (5, aI lim)]) ⟨rfl, rfl, rfl, rfl, rfl, trivial⟩ (tail M_ (q + 1) lim (mK z2) ⟨f, hMF⟩ z4 (by omega) (by omega) hW2 (by rw [Nat.min_eq_left (by omega)]))
      · refine w_aload_n C dX6_shortestWith_29 rfl ?_
        refine g_X6_38 C dX6_shortestWith_30 (by first | assumption | exact Nat.zero_lt_one | exact Nat.zero_lt_two | exact Nat.one_lt_two) ?_
        refine w_iload_n C dX6_shortestWith_33 rfl ?_
        refine w_aload_n C dX6_shortestWith_34 rfl ?_
        refine g_X6_38 C dX6_shortestWith_35 (by first | assumption | exact Nat.zero_lt_one | exact Nat.zero_lt_two | exact Nat.one_lt_two) ?_
        refine w_iload_n C dX6_shortestWith_38 rfl ?_
        refine w_callS C dX6_shortestWith_39 (c_X6_entry hl IA_27 i27 (k : Int) (by omega)) mX6_entry sX6_entry lk_X6_264 rfl rfl ⟨by first | decide | (simp only [rmd]; omega), by first | decide | (simp only [rmd]; omega), by first | decide | (simp only [rmd]; omega), by first | decide | (simp only [rmd]; omega)⟩ (Nat.le_of_ble_eq_true rfl) (fun _ _ h => h.elim) ⟨by decide, by decide⟩ (fun r_ M_ q39 => ?_)
        obtain ⟨rfl, rfl⟩ := q39
        rw [rd_ok (by omega), hW2 k hk]
        refine w_iconst C dX6_shortestWith_42 ?_
        refine w_isub C dX6_shortestWith_43 ?_
        refine w_callS C dX6_shortestWith_44 (c_X6_store hl IA_27 i27 (k : Int) ((w k : Int) - 1) (by omega)) mX6_store sX6_store lk_X6_293 rfl rfl ⟨by first | decide | (simp only [rmd]; omega), by first | decide | (simp only [rmd]; omega), by first | decide | (simp only [rmd]; omega), by first | decide | (simp only [rmd]; omega)⟩ (Nat.le_of_ble_eq_true rfl) (fun _ _ h => h.elim) ⟨by decide, by decide⟩ (fun r_ M3 q44 => ?_)
        obtain ⟨q44, rfl⟩ := q44
        rw [wr_ok (by omega)] at q44
        subst q44
        have hF3 : Fr tK M (uI M_ 27 0 k ((w k : Int) - 1)) := (mK z2).uI (Or.inr (Or.inl ⟨rfl, rfl⟩))
        have hMk3 : RepMk 1 S (Q ++ [pcK q k (zF S Q (k / 2) (k % 2))]) (q + 1) (uI M_ 27 0 k ((w k : Int) - 1)) := RepMk.fr (K := fun k i => k = 27) (by rw [List.length_append]; show Q.length + 1 ≤ 40; omega) (Fr.rf.uI rfl) ⟨by omega, by omega, by omega, by omega, by omega, by omega⟩ (fun _ _ => by omega) ⟨f, hMF⟩
        have hd : dec1 w k k = w k - 1 := if_pos rfl
        refine w_aload_n C dX6_shortestWith_47 rfl ?_
        refine w_iload_n C dX6_shortestWith_48 rfl ?_
        refine w_iconst C dX6_shortestWith_49 ?_
        refine w_isub C dX6_shortestWith_50 ?_
        refine Wm.top (v' := aI (n : Int)) (congrArg aI (by omega)) ?_
        refine w_iload_n C dX6_shortestWith_51 rfl ?_
        refine w_callV C dX6_shortestWith_52 (ih _ (dec1 w k) _ (q + 1) lim (hB.fr hF3) hMk3 z4 (by rw [List.length_append]; show Q.length + 1 + n < 40; omega) (by omega) (fun i hi => ?_) (fun i hi => ?_) hlim) mX6_shortest vX6_shortest lk_X6_318 (by first | assumption | exact Nat.zero_lt_one | exact Nat.zero_lt_two | exact Nat.one_lt_two) rfl rfl rfl rfl ⟨by first | decide | (simp only [rmd]; omega), by first | decide | (simp only [rmd]; omega), by first | decide | (simp only [rmd]; omega), by first | decide | (simp only [rmd]; omega)⟩ (Nat.le_of_ble_eq_true rfl) (fun _ _ h => h.elim) ⟨by decide, by decide⟩ (fun r_ M4 q52 => ?_)
        · rw [uI_get]
          unfold dec1
          by_cases e : i = k
          · rw [if_pos ⟨rfl, rfl, e⟩, if_pos e, e]
            omega
          · rw [if_neg (fun g => e g.2.2), if_neg e]
            exact hW2 i hi
        · have := hw4 i hi
          unfold dec1
          split <;> omega
        obtain ⟨g1, ⟨q4, g2, g3, g4⟩, g5, rfl⟩ := q52
        have h4k := g5 k hk
        rw [hd] at h4k
        refine w_istore C dX6_shortestWith_55 (by decide) ?_
        refine w_aload_n C dX6_shortestWith_57 rfl ?_
        refine g_X6_38 C dX6_shortestWith_58 (by first | assumption | exact Nat.zero_lt_one | exact Nat.zero_lt_two | exact Nat.one_lt_two) ?_
        refine w_iload_n C dX6_shortestWith_61 rfl ?_
        refine w_aload_n C dX6_shortestWith_62 rfl ?_
        refine g_X6_38 C dX6_shortestWith_63 (by first | assumption | exact Nat.zero_lt_one | exact Nat.zero_lt_two | exact Nat.one_lt_two) ?_
        refine w_iload_n C dX6_shortestWith_66 rfl ?_
        refine w_callS C dX6_shortestWith_67 (c_X6_entry hl IA_27 i27 (k : Int) (by omega)) mX6_entry sX6_entry lk_X6_264 rfl rfl ⟨by first | decide | (simp only [rmd]; omega), by first | decide | (simp only [rmd]; omega), by first | decide | (simp only [rmd]; omega), by first | decide | (simp only [rmd]; omega)⟩ (Nat.le_of_ble_eq_true rfl) (fun _ _ h => h.elim) ⟨by decide, by decide⟩ (fun r_ M5 q67 => ?_)
        obtain ⟨rfl, rfl⟩ := q67
        rw [rd_ok (by omega), h4k]
        refine w_iconst C dX6_shortestWith_70 ?_
        refine w_iadd C dX6_shortestWith_71 ?_
        refine w_callS C dX6_shortestWith_72 (c_X6_store hl IA_27 i27 (k : Int) (((w k - 1 : Nat) : Int) + 1) (by omega)) mX6_store sX6_store lk_X6_293 rfl rfl ⟨by first | decide | (simp only [rmd]; omega), by first | decide | (simp only [rmd]; omega), by first | decide | (simp only [rmd]; omega), by first | decide | (simp only [rmd]; omega)⟩ (Nat.le_of_ble_eq_true rfl) (fun _ _ h => h.elim) ⟨by decide, by decide⟩ (fun r_ M6 q72 => ?_)
        obtain ⟨q72, rfl⟩ := q72
        rw [wr_ok (by omega)] at q72
        subst q72
        have hMk6 : RepMk 1 S (Q ++ [pcK q k (zF S Q (k / 2) (k % 2))]) q4 (uI M5 27 0 k (((w k - 1 : Nat) : Int) + 1)) := RepMk.fr (K := fun k i => k = 27) (by rw [List.length_append]; show Q.length + 1 ≤ 40; omega) (Fr.rf.uI rfl) ⟨by omega, by omega, by omega, by omega, by omega, by omega⟩ (fun _ _ => by omega) g4
        refine Wm.lsub (lv' := [(0, aO 0 0), (1, aI k), (3, aI lim), (4, aI q), (5, aI (min lim (minN S n (dec1 w k) (Q ++ [pcK q k (zF S Q (k / 2) (k % 2))])) : Nat))]) ⟨rfl, rfl, rfl, rfl, rfl, trivial⟩ (tail _ q4 _ ((hF3.tr g1).uI (Or.inr (Or.inl ⟨rfl, rfl⟩))) hMk6 (z4.up g2) (by omega) (by omega) (fun i hi => ?_) (by rw [ekV]))
        rw [uI_get]
        by_cases e : i = k
        · rw [if_pos ⟨rfl, rfl, e⟩, e]
          omega
        · rw [if_neg (fun g => e g.2.2), g5 i hi]
          unfold dec1
          rw [if_neg e]
    · omega
theorem c_X6_shortest (hl : l.stackTraces = false) {S : Sg} (hG : GInv S) (hZ : ∀ j, nsS S ≤ j → szS S j = 0) (hns : nsS S ≤ ns) : ∀ n : Nat, ShP l b0 ns nt ad S n := by
  intro n
  induction n with
  | zero =>
    intro M w Q q lim hB hT hI hQ hq hW hw4 hlim
    have i21 : inD (cnt ns nt) 2 1 := Nat.one_lt_two
    have hl60 := lenR_le S Q
    refine Con.of hl pl_X6 (Nat.le_of_ble_eq_true rfl) ?_
    intro D cA p e s m args below meth c C hr
    obtain ⟨f, hMF⟩ := hT
    refine w_iload_n C dX6_shortest_0 rfl ?_
    refine w_if_gt C dX6_shortest_1 (by omega) (fun h1 => ?_) (fun h1 => ?_)
    · omega
    · refine w_iload_n C dX6_shortest_4 rfl ?_
      refine w_aload_n C dX6_shortest_5 rfl ?_
      refine g_X6_35 C dX6_shortest_6 (by first | assumption | exact Nat.zero_lt_one | exact Nat.zero_lt_two | exact Nat.one_lt_two) ?_
      refine w_callV C dX6_shortest_9 (c_X1_rowsUsed hl i21 hMF) mX1_rowsUsed vX1_rowsUsed lk_X6_219 (by first | assumption | exact Nat.zero_lt_one | exact Nat.zero_lt_two | exact Nat.one_lt_two) rfl rfl rfl rfl ⟨by first | decide | (simp only [rmd]; omega), by first | decide | (simp only [rmd]; omega), by first | decide | (simp only [rmd]; omega), by first | decide | (simp only [rmd]; omega)⟩ (Nat.le_of_ble_eq_true rfl) (fun _ _ h => h.elim) ⟨by decide, by decide⟩ (fun r_ M_ q9 => ?_)
      obtain ⟨rfl, rfl⟩ := q9
      refine w_mmin C lk_X6_327 dX6_shortest_12 (by omega) (by omega) ⟨by decide, by decide, by decide, by decide⟩ (Nat.le_of_ble_eq_true rfl) ?_
      refine w_iret C hr dX6_shortest_15 rfl (⟨Fr.rf, ⟨q, by omega, by omega, ⟨f, hMF⟩⟩, hW, congrArg (fun z : Int => some (aI z)) (by show min (lim : Int) (lenR S Q : Int) = ((min lim (lenR S Q) : Nat) : Int); omega)⟩) (by decide) (by decide)
  | succ n ih =>
    intro M w Q q lim hB hT hI hQ hq hW hw4 hlim
    have i27 : inD (cnt ns nt) 27 0 := Nat.zero_lt_one
    refine Con.of hl pl_X6 (Nat.le_of_ble_eq_true rfl) ?_
    intro D cA p e s m args below meth c C hr
    have hcN : cN (n + 1) = 16 * (1 + cN n) := rfl
    have hmin : minN S (n + 1) w Q = minF (fun k => if 0 < w k ∧ zF S Q (k / 2) (k % 2) ≠ -1 then minN S n (dec1 w k) (Q ++ [pcK 0 k (zF S Q (k / 2) (k % 2))]) else 61) 16 := rfl
    generalize hf : (fun k => if 0 < w k ∧ zF S Q (k / 2) (k % 2) ≠ -1 then minN S n (dec1 w k) (Q ++ [pcK 0 k (zF S Q (k / 2) (k % 2))]) else 61) = f at hmin
    have hfk : ∀ k, 0 < w k → f k = kV S n w Q k := fun k hk => by
      rw [← hf]
      unfold kV
      by_cases h : zF S Q (k / 2) (k % 2) ≠ -1
      · rw [if_pos h]
        exact if_pos ⟨hk, h⟩
      · rw [if_neg h]
        exact if_neg (fun g => h g.2)
    have hf0 : ∀ k, ¬ 0 < w k → f k = 61 := fun k hk => by
      rw [← hf]
      exact if_neg (fun g => hk g.1)
    have body : ∀ (d kd : Nat) (M1 : Mem) (q1 : Nat), kd + d = 16 → Fr tK M M1 → RepMk 1 S Q q1 M1 → Wt w M1 → q ≤ q1 → q1 ≤ q + kd * (1 + cN n) → Wm p l e (rmd (2 * (n + 1) + 7) 0 0) s m args below meth c 5 D cA b0 0 0 (vx_MQ below (mQ D cA b0 ad (cnt ns nt) (fun r M' => Fr tK M M' ∧ (∃ q', q ≤ q' ∧ q' ≤ q + cN (n + 1) ∧ RepMk 1 S Q q' M') ∧ Wt w M' ∧ r = some (aI (min lim (minN S (n + 1) w Q) : Nat)))) (mX D cA b0 ad (cnt ns nt) noX) args s 0 0 b0) 21 [(0, aO 0 0), (1, aI ((n + 1 : Nat) : Int)), (3, aI (min lim (minF f kd) : Nat)), (4, aI kd)] [] ad (cnt ns nt) M1 := by
      intro d
      induction d with
      | zero =>
        intro kd M1 q1 hkd hF hT1 hW1 hq1 hq2
        obtain rfl : kd = 16 := by omega
        refine w_iload C dX6_shortest_21 rfl ?_
        refine w_aload_n C dX6_shortest_23 rfl ?_
        refine g_X6_38 C dX6_shortest_24 (by first | assumption | exact Nat.zero_lt_one | exact Nat.zero_lt_two | exact Nat.one_lt_two) ?_
        refine w_alen C dX6_shortest_27 i27 (Or.inl IA_27) ?_
        refine w_icmp_ge C dX6_shortest_28 (by omega) (by omega) (fun h28 => ?_) (fun h28 => ?_)
        · refine w_iload_n C dX6_shortest_56 rfl ?_
          refine w_iret C hr dX6_shortest_57 rfl (⟨hF, ⟨q1, hq1, by omega, hT1⟩, hW1, by rw [hmin]⟩) (by decide) (by decide)
        · omega
      | succ d ihd =>
        intro kd M1 q1 hkd hF hT1 hW1 hq1 hq2
        have hkv : (kd + 1) * (1 + cN n) ≤ 16 * (1 + cN n) := Nat.mul_le_mul_right _ (by omega)
        have hkv2 : (kd + 1) * (1 + cN n) = kd * (1 + cN n) + (1 + cN n) := Nat.succ_mul _ _
        have h61 := minF_le61 f kd
        have hw4k := hw4 kd (by omega)
        refine w_iload C dX6_shortest_21 rfl ?_
        refine w_aload_n C dX6_shortest_23 rfl ?_
        refine g_X6_38 C dX6_shortest_24 (by first | assumption | exact Nat.zero_lt_one | exact Nat.zero_lt_two | exact Nat.one_lt_two) ?_
        refine w_alen C dX6_shortest_27 i27 (Or.inl IA_27) ?_
        refine w_icmp_ge C dX6_shortest_28 (by omega) (by omega) (fun h28 => ?_) (fun h28 => ?_)
        · omega
        · refine w_aload_n C dX6_shortest_31 rfl ?_
          refine g_X6_38 C dX6_shortest_32 (by first | assumption | exact Nat.zero_lt_one | exact Nat.zero_lt_two | exact Nat.one_lt_two) ?_
          refine w_iload C dX6_shortest_35 rfl ?_
          refine w_ialdN (j := kd) C dX6_shortest_37 i27 IA_27 rfl (by omega) ?_
          rw [hW1 kd (by omega)]
          refine w_if_le C dX6_shortest_38 (by omega) (fun h38 => ?_) (fun h38 => ?_)
          · have e : min lim (minF f (kd + 1)) = min lim (minF f kd) := by
              show min lim (min (minF f kd) (f kd)) = _
              rw [hf0 kd (by omega), Nat.min_eq_left h61]
            refine w_iinc C dX6_shortest_50 rfl (by decide) ?_
            refine w_goto C dX6_shortest_53 ?_
            refine Wm.lsub (lv' := [(0, aO 0 0), (1, aI ((n + 1 : Nat) : Int)), (3, aI (min lim (minF f (kd + 1)) : Nat)), (4, aI ((kd + 1 : Nat) : Int))]) ⟨rfl, rfl, by rw [e]; rfl, rfl, trivial⟩ (ihd (kd + 1) M1 q1 (by omega) hF hT1 hW1 hq1 (by omega))
          · have e : min (min lim (minF f kd)) (kV S n w Q kd) = min lim (minF f (kd + 1)) := by
              show _ = min lim (min (minF f kd) (f kd))
              rw [hfk kd (by omega), Nat.min_assoc]
            refine w_aload_n C dX6_shortest_41 rfl ?_
            refine w_iload C dX6_shortest_42 rfl ?_
            refine w_iload_n C dX6_shortest_44 rfl ?_
            refine w_iload_n C dX6_shortest_45 rfl ?_
            refine w_callV C dX6_shortest_46 (c_X6_shortestWith hl hG hZ hns ih (hB.fr hF) hT1 (hI.up hq1) hQ (by omega) hW1 hw4 (lim := min lim (minF f kd)) (Nat.le_trans (Nat.min_le_left _ _) hlim) kd (by omega) (by omega)) mX6_shortestWith vX6_shortestWith lk_X6_346 (by first | assumption | exact Nat.zero_lt_one | exact Nat.zero_lt_two | exact Nat.one_lt_two) rfl rfl rfl rfl ⟨by first | decide | (simp only [rmd]; omega), by first | decide | (simp only [rmd]; omega), by first | decide | (simp only [rmd]; omega), by first | decide | (simp only [rmd]; omega)⟩ (Nat.le_of_ble_eq_true rfl) (fun _ _ h => h.elim) ⟨by decide, by decide⟩ (fun r_ M2 q46 => ?_)
            obtain ⟨g1, ⟨q2, g2, g3, g4⟩, g5, rfl⟩ := q46
            refine w_istore_n C dX6_shortest_49 (by decide) ?_
            refine w_iinc C dX6_shortest_50 rfl (by decide) ?_
            refine w_goto C dX6_shortest_53 ?_
            refine Wm.lsub (lv' := [(0, aO 0 0), (1, aI ((n + 1 : Nat) : Int)), (3, aI (min lim (minF f (kd + 1)) : Nat)), (4, aI ((kd + 1 : Nat) : Int))]) ⟨rfl, rfl, by rw [← e]; rfl, rfl, trivial⟩ (ihd (kd + 1) M2 q2 (by omega) (hF.tr g1) g4 g5 (by omega) (by omega))
    refine w_iload_n C dX6_shortest_0 rfl ?_
    refine w_if_gt C dX6_shortest_1 (by omega) (fun h1 => ?_) (fun h1 => ?_)
    · refine w_iload_n C dX6_shortest_16 rfl ?_
      refine w_istore_n C dX6_shortest_17 (by decide) ?_
      refine w_iconst C dX6_shortest_18 ?_
      refine w_istore C dX6_shortest_19 (by decide) ?_
      refine Wm.lsub (lv' := [(0, aO 0 0), (1, aI ((n + 1 : Nat) : Int)), (3, aI (min lim (minF f 0) : Nat)), (4, aI ((0 : Nat) : Int))]) ⟨rfl, rfl, by rw [show min lim (minF f 0) = lim from Nat.min_eq_left hlim]; rfl, rfl, trivial⟩ (body 16 0 M q (by omega) Fr.rf hT hW (Nat.le_refl _) (by omega))
    · omega
end Rm
