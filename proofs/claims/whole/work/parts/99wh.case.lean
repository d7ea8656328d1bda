/-! the cases of the law: addPart, piecesFor, nestedLength, nestedByTrying -/
section Cs
variable {p : Program} {l : Launch} {e : Env} {R : Room} {s : State} {m : MethodId} {args : Array Value} {below : List Frame} {meth : Method} {c : Code} {D : va_G} {cA : Nat → ClassId} {b0 : Nat → Prop} {cells slots : Nat} {Q : State → Prop} {ad : Ads} {M : Mem} {tab : List ExceptionTableEntry}
theorem k_addPartW (hl : l.stackTraces = false) (C : Cx l p s m args meth c cL_law RL 9 D cA b0 tab) {b L : Nat} {xs : Nat → Int32} (hX : va_X b L xs s s.heap) (hbl : b < s.heap.size) (hbA : ¬ b0 b) (had : ad 99 0 = b) (hL : L ≤ 2147483647) {S : Sg} {P : List Pc} {nx n : Nat} {i : Int} (hI : LI S P nx n) (hn : n < 600) (hR : RepRoom S P nx M) (hM : RepMo S P nx M) (hi : 0 ≤ i ∧ i + 5 < L) (hroom : 40 ≤ R.frames ∧ 4000 ≤ R.locals ∧ cells + 1000 ≤ R.cells ∧ slots + 12000 ≤ R.slots)
    (kk : KL p l e R s m args below meth c D cA b0 cells slots Q b i n) : Wm p l e R s m args below meth c 9 D cA b0 cells slots Q 1626 (lvL i) [] ad (cnB (nsS S) (ntS S)) M := by
  have i40 : inD (cnB (nsS S) (ntS S)) 40 0 := Nat.zero_lt_one
  have i0 : inD (cnB (nsS S) (ntS S)) 0 0 := Nat.zero_lt_one
  have hnx : nx < 1000000 := by have := hI.2.2.2.1; omega
  have hmd : ∀ y, mdS S y < 1000000 := fun y => by have := hI.2.2.2.2 y; omega
  have x1 := rg32 (xs (i + 1).toNat)
  have x2 := rg32 (xs (i + 2).toNat)
  have x3 := rg32 (xs (i + 3).toNat)
  have hL1 : LIR (oAddPart (xs (i + 1).toNat).toInt (xs (i + 2).toNat).toInt (xs (i + 3).toNat).toInt S P nx) (n + 1) := li_addPart hI _ _ _
  have ens : nsS (oAddPart (xs (i + 1).toNat).toInt (xs (i + 2).toNat).toInt (xs (i + 3).toNat).toInt S P nx).2.2.1 = nsS S := by
    unfold oAddPart
    (repeat' split) <;> rfl
  have ent : ntS (oAddPart (xs (i + 1).toNat).toInt (xs (i + 2).toNat).toInt (xs (i + 3).toNat).toInt S P nx).2.2.1 = ntS S := by
    unfold oAddPart
    (repeat' split) <;> rfl
  have ecd : (oAddPart (xs (i + 1).toNat).toInt (xs (i + 2).toNat).toInt (xs (i + 3).toNat).toInt S P nx).1 ≤ 9 := by
    unfold oAddPart
    (repeat' split) <;> exact Nat.le_of_ble_eq_true rfl
  refine w_aload_n C dL_law_1626 rfl ?_
  refine w_arg C hX hbl hbA had hL hi (by omega) dL_law_1627 dL_law_1628 dL_law_1630 dL_law_1631 dL_law_1632 rfl rfl ?_
  refine w_arg C hX hbl hbA had hL hi (by omega) dL_law_1633 dL_law_1634 dL_law_1636 dL_law_1637 dL_law_1638 rfl rfl ?_
  refine w_arg C hX hbl hbA had hL hi (by omega) dL_law_1639 dL_law_1640 dL_law_1642 dL_law_1643 dL_law_1644 rfl rfl ?_
  refine w_aload_n C dL_law_1645 rfl ?_
  refine w_subS sdR C (as := [aO 0 0, aI (xs (i + 1).toNat).toInt, aI (xs (i + 2).toNat).toInt, aI (xs (i + 3).toNat).toInt, aO 80 0]) dL_law_1646 (apR _ _) (cnS_R _ _) (fun b1 => h_addPart hl (c_X6_addPart hl hI.1 hmd (Nat.le_refl _) (Nat.le_refl _) hR _ _ _ x1 x2 x3)) mhL_addPart sL_addPart lk_L_223 rfl rfl ⟨by omega, by omega, by omega, by omega⟩ (Nat.le_of_ble_eq_true rfl) (fun r M1 hp => ?_)
  obtain ⟨rfl, hR1, hM1, ho1⟩ := side_a hM hp hL1.1.2.2.1
  refine w_istore C dL_law_1649 (by decide) ?_
  refine w_aload_n C dL_law_1651 rfl ?_
  refine w_arg C hX hbl hbA had hL hi (by omega) dL_law_1652 dL_law_1653 dL_law_1655 dL_law_1656 dL_law_1657 rfl rfl ?_
  refine w_arg C hX hbl hbA had hL hi (by omega) dL_law_1658 dL_law_1659 dL_law_1661 dL_law_1662 dL_law_1663 rfl rfl ?_
  refine w_arg C hX hbl hbA had hL hi (by omega) dL_law_1664 dL_law_1665 dL_law_1667 dL_law_1668 dL_law_1669 rfl rfl ?_
  refine w_subV sdM C (as := [aI (xs (i + 1).toNat).toInt, aI (xs (i + 2).toNat).toInt, aI (xs (i + 3).toNat).toInt]) dL_law_1670 (apM _ _) (cnS_M _ _) (fun b1 => c_X7_addPart hl hI.1 hmd hM1 _ _ _ x1 x2 x3) mX7_addPart vX7_addPart lk_L_225 Nat.zero_lt_one rfl rfl rfl rfl ⟨by omega, by omega, by omega, by omega⟩ (Nat.le_of_ble_eq_true rfl) (fun r M2 hp2 => ?_)
  obtain ⟨⟨v, rfl, hv⟩, hM2, hR2, hth, hout⟩ := side_b hR1 hL1.1.2.2.1 hp2
  refine w_istore C dL_law_1673 (by decide) ?_
  refine w_tail hl C rfl dL_law_1675 dL_law_1676 dL_law_1679 dL_law_1681 dL_law_1686 dL_law_1688 dL_law_1691 dL_law_1692 dL_law_1693 dL_law_1694 dL_law_1696 dL_law_1697 dL_law_1698 ⟨by omega, by omega, by omega, by omega⟩ rfl rfl rfl rfl ecd hth (fun h => by rw [hout, ho1 h, hv h]) ?_
  refine w_goto C dL_law_1703 ?_
  refine Wm.lsub (lv' := lvL i) ⟨rfl, rfl, rfl, rfl, rfl, rfl, trivial⟩ ?_
  rw [← ens, ← ent]
  exact kk _ _ _ _ _ _ _ (by omega) (by omega) hL1 hR2 hM2 had
theorem k_piecesForW (hl : l.stackTraces = false) (C : Cx l p s m args meth c cL_law RL 9 D cA b0 tab) {b L : Nat} {xs : Nat → Int32} (hX : va_X b L xs s s.heap) (hbl : b < s.heap.size) (hbA : ¬ b0 b) (had : ad 99 0 = b) (hL : L ≤ 2147483647) {S : Sg} {P : List Pc} {nx n : Nat} {i : Int} (hI : LI S P nx n) (hn : n < 600) (hR : RepRoom S P nx M) (hM : RepMo S P nx M) (hi : 0 ≤ i ∧ i + 5 < L) (hroom : 40 ≤ R.frames ∧ 4000 ≤ R.locals ∧ cells + 1000 ≤ R.cells ∧ slots + 12000 ≤ R.slots)
    (kk : KL p l e R s m args below meth c D cA b0 cells slots Q b i n) : Wm p l e R s m args below meth c 9 D cA b0 cells slots Q 1706 (lvL i) [] ad (cnB (nsS S) (ntS S)) M := by
  have i40 : inD (cnB (nsS S) (ntS S)) 40 0 := Nat.zero_lt_one
  have i0 : inD (cnB (nsS S) (ntS S)) 0 0 := Nat.zero_lt_one
  have hnx : nx < 1000000 := by have := hI.2.2.2.1; omega
  have hmd : ∀ y, mdS S y < 1000000 := fun y => by have := hI.2.2.2.2 y; omega
  have x1 := rg32 (xs (i + 1).toNat)
  have hL1 : LIR (oPiecesFor (xs (i + 1).toNat).toInt S P nx) (n + 1) := by
    have h9 := hI.up
    unfold LIR oPiecesFor
    (repeat' split) <;> exact h9
  have ens : nsS (oPiecesFor (xs (i + 1).toNat).toInt S P nx).2.2.1 = nsS S := by
    unfold oPiecesFor
    (repeat' split) <;> rfl
  have ent : ntS (oPiecesFor (xs (i + 1).toNat).toInt S P nx).2.2.1 = ntS S := by
    unfold oPiecesFor
    (repeat' split) <;> rfl
  have ecd : (oPiecesFor (xs (i + 1).toNat).toInt S P nx).1 ≤ 9 := by
    unfold oPiecesFor
    (repeat' split) <;> exact Nat.le_of_ble_eq_true rfl
  refine w_aload_n C dL_law_1706 rfl ?_
  refine w_arg C hX hbl hbA had hL hi (by omega) dL_law_1707 dL_law_1708 dL_law_1710 dL_law_1711 dL_law_1712 rfl rfl ?_
  refine w_aload_n C dL_law_1713 rfl ?_
  refine w_subS sdR C (as := [aO 0 0, aI (xs (i + 1).toNat).toInt, aO 80 0]) dL_law_1714 (apR _ _) (cnS_R _ _) (fun b1 => h_piecesFor hl (c_X6_piecesFor hl hI.1 (Nat.le_refl _) (Nat.le_refl _) hR _ x1)) mhL_piecesFor sL_piecesFor lk_L_226 rfl rfl ⟨by omega, by omega, by omega, by omega⟩ (Nat.le_of_ble_eq_true rfl) (fun r M1 hp => ?_)
  obtain ⟨rfl, hR1, hM1, ho1⟩ := side_a hM hp hL1.1.2.2.1
  refine w_istore C dL_law_1717 (by decide) ?_
  refine w_aload_n C dL_law_1719 rfl ?_
  refine w_arg C hX hbl hbA had hL hi (by omega) dL_law_1720 dL_law_1721 dL_law_1723 dL_law_1724 dL_law_1725 rfl rfl ?_
  refine w_subV sdM C (as := [aI (xs (i + 1).toNat).toInt]) dL_law_1726 (apM _ _) (cnS_M _ _) (fun b1 => c_X7_piecesFor hl hI.1 hM1 _ x1) mX7_piecesFor vX7_piecesFor lk_L_228 Nat.zero_lt_one rfl rfl rfl rfl ⟨by omega, by omega, by omega, by omega⟩ (Nat.le_of_ble_eq_true rfl) (fun r M2 hp2 => ?_)
  obtain ⟨⟨v, rfl, hv⟩, hM2, hR2, hth, hout⟩ := side_b hR1 hL1.1.2.2.1 hp2
  refine w_istore C dL_law_1729 (by decide) ?_
  refine w_tail hl C rfl dL_law_1731 dL_law_1732 dL_law_1735 dL_law_1737 dL_law_1742 dL_law_1744 dL_law_1747 dL_law_1748 dL_law_1749 dL_law_1750 dL_law_1752 dL_law_1753 dL_law_1754 ⟨by omega, by omega, by omega, by omega⟩ rfl rfl rfl rfl ecd hth (fun h => by rw [hout, ho1 h, hv h]) ?_
  refine w_goto C dL_law_1759 ?_
  refine Wm.lsub (lv' := lvL i) ⟨rfl, rfl, rfl, rfl, rfl, rfl, trivial⟩ ?_
  rw [← ens, ← ent]
  exact kk _ _ _ _ _ _ _ (by omega) (by omega) hL1 hR2 hM2 had
theorem k_nestedLengthW (hl : l.stackTraces = false) (C : Cx l p s m args meth c cL_law RL 9 D cA b0 tab) {b L : Nat} {xs : Nat → Int32} (hX : va_X b L xs s s.heap) (hbl : b < s.heap.size) (hbA : ¬ b0 b) (had : ad 99 0 = b) (hL : L ≤ 2147483647) {S : Sg} {P : List Pc} {nx n : Nat} {i : Int} (hI : LI S P nx n) (hn : n < 600) (hR : RepRoom S P nx M) (hM : RepMo S P nx M) (hi : 0 ≤ i ∧ i + 5 < L) (hroom : 40 ≤ R.frames ∧ 4000 ≤ R.locals ∧ cells + 1000 ≤ R.cells ∧ slots + 12000 ≤ R.slots)
    (kk : KL p l e R s m args below meth c D cA b0 cells slots Q b i n) : Wm p l e R s m args below meth c 9 D cA b0 cells slots Q 1762 (lvL i) [] ad (cnB (nsS S) (ntS S)) M := by
  have i40 : inD (cnB (nsS S) (ntS S)) 40 0 := Nat.zero_lt_one
  have i0 : inD (cnB (nsS S) (ntS S)) 0 0 := Nat.zero_lt_one
  have hnx : nx < 1000000 := by have := hI.2.2.2.1; omega
  have hmd : ∀ y, mdS S y < 1000000 := fun y => by have := hI.2.2.2.2 y; omega
  have x1 := rg32 (xs (i + 1).toNat)
  have hL1 : LIR (oNested (xs (i + 1).toNat).toInt S P nx) (n + 1) := li_nested hI _
  have ens : nsS (oNested (xs (i + 1).toNat).toInt S P nx).2.2.1 = nsS S := by
    unfold oNested
    (repeat' split) <;> rfl
  have ent : ntS (oNested (xs (i + 1).toNat).toInt S P nx).2.2.1 = ntS S := by
    unfold oNested
    (repeat' split) <;> rfl
  have ecd : (oNested (xs (i + 1).toNat).toInt S P nx).1 ≤ 9 := by
    unfold oNested
    (repeat' split) <;> exact Nat.le_of_ble_eq_true rfl
  refine w_aload_n C dL_law_1762 rfl ?_
  refine w_arg C hX hbl hbA had hL hi (by omega) dL_law_1763 dL_law_1764 dL_law_1766 dL_law_1767 dL_law_1768 rfl rfl ?_
  refine w_aload_n C dL_law_1769 rfl ?_
  refine w_subS sdR C (as := [aO 0 0, aI (xs (i + 1).toNat).toInt, aO 80 0]) dL_law_1770 (apR _ _) (cnS_R _ _) (fun b1 => h_nestedLength hl (c_X6_nestedLength hl hI.1 hI.2.1 hR (Nat.le_refl _) (Nat.le_refl _) _ x1)) mhL_nestedLength sL_nestedLength lk_L_229 rfl rfl ⟨by omega, by omega, by omega, by omega⟩ (Nat.le_of_ble_eq_true rfl) (fun r M1 hp => ?_)
  obtain ⟨rfl, hR1, hM1, ho1⟩ := side_a hM hp hL1.1.2.2.1
  refine w_istore C dL_law_1773 (by decide) ?_
  refine w_aload_n C dL_law_1775 rfl ?_
  refine w_arg C hX hbl hbA had hL hi (by omega) dL_law_1776 dL_law_1777 dL_law_1779 dL_law_1780 dL_law_1781 rfl rfl ?_
  refine w_subV sdM C (as := [aI (xs (i + 1).toNat).toInt]) dL_law_1782 (apM _ _) (cnS_M _ _) (fun b1 => c_X7_nestedLength hl hI.1 hI.2.1 hI.2.2.1 hnx hM1 _ x1) mX7_nestedLength vX7_nestedLength lk_L_231 Nat.zero_lt_one rfl rfl rfl rfl ⟨by omega, by omega, by omega, by omega⟩ (Nat.le_of_ble_eq_true rfl) (fun r M2 hp2 => ?_)
  obtain ⟨⟨v, rfl, hv⟩, hM2, hR2, hth, hout⟩ := side_b hR1 hL1.1.2.2.1 hp2
  refine w_istore C dL_law_1785 (by decide) ?_
  refine w_tail hl C rfl dL_law_1787 dL_law_1788 dL_law_1791 dL_law_1793 dL_law_1798 dL_law_1800 dL_law_1803 dL_law_1804 dL_law_1805 dL_law_1806 dL_law_1808 dL_law_1809 dL_law_1810 ⟨by omega, by omega, by omega, by omega⟩ rfl rfl rfl rfl ecd hth (fun h => by rw [hout, ho1 h, hv h]) ?_
  refine w_goto C dL_law_1815 ?_
  refine Wm.lsub (lv' := lvL i) ⟨rfl, rfl, rfl, rfl, rfl, rfl, trivial⟩ ?_
  rw [← ens, ← ent]
  exact kk _ _ _ _ _ _ _ (by omega) (by omega) hL1 hR2 hM2 had
theorem k_nestedByTryingW (hl : l.stackTraces = false) (C : Cx l p s m args meth c cL_law RL 9 D cA b0 tab) {b L : Nat} {xs : Nat → Int32} (hX : va_X b L xs s s.heap) (hbl : b < s.heap.size) (hbA : ¬ b0 b) (had : ad 99 0 = b) (hL : L ≤ 2147483647) {S : Sg} {P : List Pc} {nx n : Nat} {i : Int} (hI : LI S P nx n) (hn : n < 600) (hR : RepRoom S P nx M) (hM : RepMo S P nx M) (hi : 0 ≤ i ∧ i + 5 < L) (hroom : 40 ≤ R.frames ∧ 4000 ≤ R.locals ∧ cells + 1000 ≤ R.cells ∧ slots + 12000 ≤ R.slots)
    (kk : KL p l e R s m args below meth c D cA b0 cells slots Q b i n) : Wm p l e R s m args below meth c 9 D cA b0 cells slots Q 1818 (lvL i) [] ad (cnB (nsS S) (ntS S)) M := by
  have i40 : inD (cnB (nsS S) (ntS S)) 40 0 := Nat.zero_lt_one
  have i0 : inD (cnB (nsS S) (ntS S)) 0 0 := Nat.zero_lt_one
  have hnx : nx < 1000000 := by have := hI.2.2.2.1; omega
  have hmd : ∀ y, mdS S y < 1000000 := fun y => by have := hI.2.2.2.2 y; omega
  have x1 := rg32 (xs (i + 1).toNat)
  have hL1 : LIR (oNested (xs (i + 1).toNat).toInt S P nx) (n + 1) := li_nested hI _
  have ens : nsS (oNested (xs (i + 1).toNat).toInt S P nx).2.2.1 = nsS S := by
    unfold oNested
    (repeat' split) <;> rfl
  have ent : ntS (oNested (xs (i + 1).toNat).toInt S P nx).2.2.1 = ntS S := by
    unfold oNested
    (repeat' split) <;> rfl
  have ecd : (oNested (xs (i + 1).toNat).toInt S P nx).1 ≤ 9 := by
    unfold oNested
    (repeat' split) <;> exact Nat.le_of_ble_eq_true rfl
  refine w_aload_n C dL_law_1818 rfl ?_
  refine w_arg C hX hbl hbA had hL hi (by omega) dL_law_1819 dL_law_1820 dL_law_1822 dL_law_1823 dL_law_1824 rfl rfl ?_
  refine w_aload_n C dL_law_1825 rfl ?_
  refine w_subS sdR C (as := [aO 0 0, aI (xs (i + 1).toNat).toInt, aO 80 0]) dL_law_1826 (apR _ _) (cnS_R _ _) (fun b1 => h_nestedByTrying hl (c_X6_nestedByTrying hl hI.1 hI.2.1 hR (Nat.le_refl _) (Nat.le_refl _) _ x1)) mhL_nestedByTrying sL_nestedByTrying lk_L_232 rfl rfl ⟨by omega, by omega, by omega, by omega⟩ (Nat.le_of_ble_eq_true rfl) (fun r M1 hp => ?_)
  obtain ⟨rfl, hR1, hM1, ho1⟩ := side_a hM hp hL1.1.2.2.1
  refine w_istore C dL_law_1829 (by decide) ?_
  refine w_aload_n C dL_law_1831 rfl ?_
  refine w_arg C hX hbl hbA had hL hi (by omega) dL_law_1832 dL_law_1833 dL_law_1835 dL_law_1836 dL_law_1837 rfl rfl ?_
  refine w_subV sdM C (as := [aI (xs (i + 1).toNat).toInt]) dL_law_1838 (apM _ _) (cnS_M _ _) (fun b1 => c_X7_nestedByTrying hl hI.1 hI.2.1 hI.2.2.1 hnx hM1 _ x1) mX7_nestedByTrying vX7_nestedByTrying lk_L_234 Nat.zero_lt_one rfl rfl rfl rfl ⟨by omega, by omega, by omega, by omega⟩ (Nat.le_of_ble_eq_true rfl) (fun r M2 hp2 => ?_)
  obtain ⟨⟨v, rfl, hv⟩, hM2, hR2, hth, hout⟩ := side_b hR1 hL1.1.2.2.1 hp2
  refine w_istore C dL_law_1841 (by decide) ?_
  refine w_tail hl C rfl dL_law_1843 dL_law_1844 dL_law_1847 dL_law_1849 dL_law_1854 dL_law_1856 dL_law_1859 dL_law_1860 dL_law_1861 dL_law_1862 dL_law_1864 dL_law_1865 dL_law_1866 ⟨by omega, by omega, by omega, by omega⟩ rfl rfl rfl rfl ecd hth (fun h => by rw [hout, ho1 h, hv h]) ?_
  refine w_goto C dL_law_1871 ?_
  refine Wm.lsub (lv' := lvL i) ⟨rfl, rfl, rfl, rfl, rfl, rfl, trivial⟩ ?_
  rw [← ens, ← ent]
  exact kk _ _ _ _ _ _ _ (by omega) (by omega) hL1 hR2 hM2 had
end Cs
