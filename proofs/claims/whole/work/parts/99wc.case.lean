/-! the cases of the law: addCell, setMark -/
section Cs
variable {p : Program} {l : Launch} {e : Env} {R : Room} {s : State} {m : MethodId} {args : Array Value} {below : List Frame} {meth : Method} {c : Code} {D : va_G} {cA : Nat → ClassId} {b0 : Nat → Prop} {cells slots : Nat} {Q : State → Prop} {ad : Ads} {M : Mem} {tab : List ExceptionTableEntry}
theorem k_addCellW (hl : l.stackTraces = false) (C : Cx l p s m args meth c cL_law RL 9 D cA b0 tab) {b L : Nat} {xs : Nat → Int32} (hX : va_X b L xs s s.heap) (hbl : b < s.heap.size) (hbA : ¬ b0 b) (had : ad 99 0 = b) (hL : L ≤ 2147483647) {S : Sg} {P : List Pc} {nx n : Nat} {i : Int} (hI : LI S P nx n) (hn : n < 600) (hR : RepRoom S P nx M) (hM : RepMo S P nx M) (hi : 0 ≤ i ∧ i + 5 < L) (hroom : 40 ≤ R.frames ∧ 4000 ≤ R.locals ∧ cells + 1000 ≤ R.cells ∧ slots + 12000 ≤ R.slots)
    (kk : KL p l e R s m args below meth c D cA b0 cells slots Q b i n) : Wm p l e R s m args below meth c 9 D cA b0 cells slots Q 562 (lvL i) [] ad (cnB (nsS S) (ntS S)) M := by
  have i40 : inD (cnB (nsS S) (ntS S)) 40 0 := Nat.zero_lt_one
  have i0 : inD (cnB (nsS S) (ntS S)) 0 0 := Nat.zero_lt_one
  have hnx : nx < 1000000 := by have := hI.2.2.2.1; omega
  have hmd : ∀ y, mdS S y < 1000000 := fun y => by have := hI.2.2.2.2 y; omega
  have x1 := rg32 (xs (i + 1).toNat)
  have x2 := rg32 (xs (i + 2).toNat)
  have x3 := rg32 (xs (i + 3).toNat)
  have hL1 : LIR (oAddCell (xs (i + 1).toNat).toInt (xs (i + 2).toNat).toInt (xs (i + 3).toNat).toInt S P nx) (n + 1) := li_addCell hI _ _ _
  have ens : nsS (oAddCell (xs (i + 1).toNat).toInt (xs (i + 2).toNat).toInt (xs (i + 3).toNat).toInt S P nx).2.2.1 = nsS S := by
    unfold oAddCell
    (repeat' split) <;> rfl
  have ent : ntS (oAddCell (xs (i + 1).toNat).toInt (xs (i + 2).toNat).toInt (xs (i + 3).toNat).toInt S P nx).2.2.1 = ntS S := by
    unfold oAddCell
    (repeat' split) <;> rfl
  have ecd : (oAddCell (xs (i + 1).toNat).toInt (xs (i + 2).toNat).toInt (xs (i + 3).toNat).toInt S P nx).1 ≤ 9 := by
    unfold oAddCell
    (repeat' split) <;> exact Nat.le_of_ble_eq_true rfl
  refine w_aload_n C dL_law_562 rfl ?_
  refine w_arg C hX hbl hbA had hL hi (by omega) dL_law_563 dL_law_564 dL_law_566 dL_law_567 dL_law_568 rfl rfl ?_
  refine w_arg C hX hbl hbA had hL hi (by omega) dL_law_569 dL_law_570 dL_law_572 dL_law_573 dL_law_574 rfl rfl ?_
  refine w_arg C hX hbl hbA had hL hi (by omega) dL_law_575 dL_law_576 dL_law_578 dL_law_579 dL_law_580 rfl rfl ?_
  refine w_aload_n C dL_law_581 rfl ?_
  refine w_subS sdR C (as := [aO 0 0, aI (xs (i + 1).toNat).toInt, aI (xs (i + 2).toNat).toInt, aI (xs (i + 3).toNat).toInt, aO 80 0]) dL_law_582 (apR _ _) (cnS_R _ _) (fun b1 => h_addCell hl (c_X6_addCell hl hI.1 (Nat.le_refl _) (hI.bE (by omega)) hR _ _ _ x1 x2 x3)) mhL_addCell sL_addCell lk_L_159 rfl rfl ⟨by omega, by omega, by omega, by omega⟩ (Nat.le_of_ble_eq_true rfl) (fun r M1 hp => ?_)
  obtain ⟨rfl, hR1, hM1, ho1⟩ := side_a hM hp hL1.1.2.2.1
  refine w_istore C dL_law_585 (by decide) ?_
  refine w_aload_n C dL_law_587 rfl ?_
  refine w_arg C hX hbl hbA had hL hi (by omega) dL_law_588 dL_law_589 dL_law_591 dL_law_592 dL_law_593 rfl rfl ?_
  refine w_arg C hX hbl hbA had hL hi (by omega) dL_law_594 dL_law_595 dL_law_597 dL_law_598 dL_law_599 rfl rfl ?_
  refine w_arg C hX hbl hbA had hL hi (by omega) dL_law_600 dL_law_601 dL_law_603 dL_law_604 dL_law_605 rfl rfl ?_
  refine w_subV sdM C (as := [aI (xs (i + 1).toNat).toInt, aI (xs (i + 2).toNat).toInt, aI (xs (i + 3).toNat).toInt]) dL_law_606 (apM _ _) (cnS_M _ _) (fun b1 => c_X7_addCell hl hI.1 hM1 _ _ _ x1 x2 x3) mX7_addCell vX7_addCell lk_L_162 Nat.zero_lt_one rfl rfl rfl rfl ⟨by omega, by omega, by omega, by omega⟩ (Nat.le_of_ble_eq_true rfl) (fun r M2 hp2 => ?_)
  obtain ⟨⟨v, rfl, hv⟩, hM2, hR2, hth, hout⟩ := side_b hR1 hL1.1.2.2.1 hp2
  refine w_istore C dL_law_609 (by decide) ?_
  refine w_tail hl C rfl dL_law_611 dL_law_612 dL_law_615 dL_law_617 dL_law_622 dL_law_624 dL_law_627 dL_law_628 dL_law_629 dL_law_630 dL_law_632 dL_law_633 dL_law_634 ⟨by omega, by omega, by omega, by omega⟩ rfl rfl rfl rfl ecd hth (fun h => by rw [hout, ho1 h, hv h]) ?_
  refine w_goto C dL_law_639 ?_
  refine Wm.lsub (lv' := lvL i) ⟨rfl, rfl, rfl, rfl, rfl, rfl, trivial⟩ ?_
  rw [← ens, ← ent]
  exact kk _ _ _ _ _ _ _ (by omega) (by omega) hL1 hR2 hM2 had
theorem k_setMarkW (hl : l.stackTraces = false) (C : Cx l p s m args meth c cL_law RL 9 D cA b0 tab) {b L : Nat} {xs : Nat → Int32} (hX : va_X b L xs s s.heap) (hbl : b < s.heap.size) (hbA : ¬ b0 b) (had : ad 99 0 = b) (hL : L ≤ 2147483647) {S : Sg} {P : List Pc} {nx n : Nat} {i : Int} (hI : LI S P nx n) (hn : n < 600) (hR : RepRoom S P nx M) (hM : RepMo S P nx M) (hi : 0 ≤ i ∧ i + 5 < L) (hroom : 40 ≤ R.frames ∧ 4000 ≤ R.locals ∧ cells + 1000 ≤ R.cells ∧ slots + 12000 ≤ R.slots)
    (kk : KL p l e R s m args below meth c D cA b0 cells slots Q b i n) : Wm p l e R s m args below meth c 9 D cA b0 cells slots Q 642 (lvL i) [] ad (cnB (nsS S) (ntS S)) M := by
  have i40 : inD (cnB (nsS S) (ntS S)) 40 0 := Nat.zero_lt_one
  have i0 : inD (cnB (nsS S) (ntS S)) 0 0 := Nat.zero_lt_one
  have hnx : nx < 1000000 := by have := hI.2.2.2.1; omega
  have hmd : ∀ y, mdS S y < 1000000 := fun y => by have := hI.2.2.2.2 y; omega
  have x1 := rg32 (xs (i + 1).toNat)
  have x2 := rg32 (xs (i + 2).toNat)
  have x3 := rg32 (xs (i + 3).toNat)
  have x4 := rg32 (xs (i + 4).toNat)
  have hL1 : LIR (oSetMark (xs (i + 1).toNat).toInt (xs (i + 2).toNat).toInt (xs (i + 3).toNat).toInt (xs (i + 4).toNat).toInt S P nx) (n + 1) := li_setMark hI _ _ _ _
  have ens : nsS (oSetMark (xs (i + 1).toNat).toInt (xs (i + 2).toNat).toInt (xs (i + 3).toNat).toInt (xs (i + 4).toNat).toInt S P nx).2.2.1 = nsS S := by
    unfold oSetMark
    (repeat' split) <;> rfl
  have ent : ntS (oSetMark (xs (i + 1).toNat).toInt (xs (i + 2).toNat).toInt (xs (i + 3).toNat).toInt (xs (i + 4).toNat).toInt S P nx).2.2.1 = ntS S := by
    unfold oSetMark
    (repeat' split) <;> rfl
  have ecd : (oSetMark (xs (i + 1).toNat).toInt (xs (i + 2).toNat).toInt (xs (i + 3).toNat).toInt (xs (i + 4).toNat).toInt S P nx).1 ≤ 9 := by
    unfold oSetMark
    (repeat' split) <;> exact Nat.le_of_ble_eq_true rfl
  refine w_aload_n C dL_law_642 rfl ?_
  refine w_arg C hX hbl hbA had hL hi (by omega) dL_law_643 dL_law_644 dL_law_646 dL_law_647 dL_law_648 rfl rfl ?_
  refine w_arg C hX hbl hbA had hL hi (by omega) dL_law_649 dL_law_650 dL_law_652 dL_law_653 dL_law_654 rfl rfl ?_
  refine w_arg C hX hbl hbA had hL hi (by omega) dL_law_655 dL_law_656 dL_law_658 dL_law_659 dL_law_660 rfl rfl ?_
  refine w_arg C hX hbl hbA had hL hi (by omega) dL_law_661 dL_law_662 dL_law_664 dL_law_665 dL_law_666 rfl rfl ?_
  refine w_aload_n C dL_law_667 rfl ?_
  refine w_subS sdR C (as := [aO 0 0, aI (xs (i + 1).toNat).toInt, aI (xs (i + 2).toNat).toInt, aI (xs (i + 3).toNat).toInt, aI (xs (i + 4).toNat).toInt, aO 80 0]) dL_law_668 (apR _ _) (cnS_R _ _) (fun b1 => h_setMark hl (c_X6_setMark hl hI.1 (Nat.le_refl _) hR _ _ _ _ x1 x2 x3 x4)) mhL_setMark sL_setMark lk_L_163 rfl rfl ⟨by omega, by omega, by omega, by omega⟩ (Nat.le_of_ble_eq_true rfl) (fun r M1 hp => ?_)
  obtain ⟨rfl, hR1, hM1, ho1⟩ := side_a hM hp hL1.1.2.2.1
  refine w_istore C dL_law_671 (by decide) ?_
  refine w_aload_n C dL_law_673 rfl ?_
  refine w_arg C hX hbl hbA had hL hi (by omega) dL_law_674 dL_law_675 dL_law_677 dL_law_678 dL_law_679 rfl rfl ?_
  refine w_arg C hX hbl hbA had hL hi (by omega) dL_law_680 dL_law_681 dL_law_683 dL_law_684 dL_law_685 rfl rfl ?_
  refine w_arg C hX hbl hbA had hL hi (by omega) dL_law_686 dL_law_687 dL_law_689 dL_law_690 dL_law_691 rfl rfl ?_
  refine w_arg C hX hbl hbA had hL hi (by omega) dL_law_692 dL_law_693 dL_law_695 dL_law_696 dL_law_697 rfl rfl ?_
  refine w_subV sdM C (as := [aI (xs (i + 1).toNat).toInt, aI (xs (i + 2).toNat).toInt, aI (xs (i + 3).toNat).toInt, aI (xs (i + 4).toNat).toInt]) dL_law_698 (apM _ _) (cnS_M _ _) (fun b1 => c_X7_setMark hl hI.1 hM1 _ _ _ _ x1 x2 x3 x4) mX7_setMark vX7_setMark lk_L_166 Nat.zero_lt_one rfl rfl rfl rfl ⟨by omega, by omega, by omega, by omega⟩ (Nat.le_of_ble_eq_true rfl) (fun r M2 hp2 => ?_)
  obtain ⟨⟨v, rfl, hv⟩, hM2, hR2, hth, hout⟩ := side_b hR1 hL1.1.2.2.1 hp2
  refine w_istore C dL_law_701 (by decide) ?_
  refine w_tail hl C rfl dL_law_703 dL_law_704 dL_law_707 dL_law_709 dL_law_714 dL_law_716 dL_law_719 dL_law_720 dL_law_721 dL_law_722 dL_law_724 dL_law_725 dL_law_726 ⟨by omega, by omega, by omega, by omega⟩ rfl rfl rfl rfl ecd hth (fun h => by rw [hout, ho1 h, hv h]) ?_
  refine w_goto C dL_law_731 ?_
  refine Wm.lsub (lv' := lvL i) ⟨rfl, rfl, rfl, rfl, rfl, rfl, trivial⟩ ?_
  rw [← ens, ← ent]
  exact kk _ _ _ _ _ _ _ (by omega) (by omega) hL1 hR2 hM2 had
end Cs
