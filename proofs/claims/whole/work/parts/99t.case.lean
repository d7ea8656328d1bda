/-! the cases of the law (the first: cellsOf) -/
section Cs
variable {p : Program} {l : Launch} {e : Env} {R : Room} {s : State} {m : MethodId} {args : Array Value} {below : List Frame} {meth : Method} {c : Code} {D : va_G} {cA : Nat → ClassId} {b0 : Nat → Prop} {cells slots : Nat} {Q : State → Prop} {ad : Ads} {M : Mem} {tab : List ExceptionTableEntry}
def lvL (i : Int) : Lv := [(0, aO 99 0), (1, aO 0 0), (2, aO 40 0), (3, aO 80 0), (4, aO 81 0), (5, aI i)]
theorem rg32 (x : Int32) : -2147483648 ≤ x.toInt ∧ x.toInt ≤ 2147483647 := by
  have h1 := Int32.le_toInt x
  have h2 := Int32.toInt_lt x
  omega
theorem k_cellsOf (hl : l.stackTraces = false) (C : Cx l p s m args meth c cL_law RL 9 D cA b0 tab) {b L : Nat} {xs : Nat → Int32} (hX : va_X b L xs s s.heap) (hbl : b < s.heap.size) (hbA : ¬ b0 b) (had : ad 99 0 = b) (hL : L ≤ 2147483647) {S : Sg} {P : List Pc} {nx n : Nat} {i : Int} (hI : LI S P nx n) (hR : RepRoom S P nx M) (hM : RepMo S P nx M) (hi : 0 ≤ i ∧ i + 5 < L) (hroom : 40 ≤ R.frames ∧ 4000 ≤ R.locals ∧ cells + 2 ≤ R.cells ∧ slots + 12 ≤ R.slots)
    (kk : ∀ (c2 s2 : Nat) (M' : Mem), c2 ≤ cells + 2 → s2 ≤ slots + 12 → RepRoom S P nx M' → RepMo S P nx M' → Wm p l e R s m args below meth c 9 D cA b0 c2 s2 Q 2545 (lvL i) [] ad (cnB (nsS S) (ntS S)) M') : Wm p l e R s m args below meth c 9 D cA b0 cells slots Q 734 (lvL i) [] ad (cnB (nsS S) (ntS S)) M := by
  have i40 : inD (cnB (nsS S) (ntS S)) 40 0 := Nat.zero_lt_one
  have hP := hI.1.2.2.1
  have x1 := rg32 (xs (i + 1).toNat)
  have eo : (oCellsOf (xs (i + 1).toNat).toInt S P nx).2.2 = (S, P, nx) := by
    unfold oCellsOf
    split <;> rfl
  have eo1 : (oCellsOf (xs (i + 1).toNat).toInt S P nx).1 ≤ 9 := by
    unfold oCellsOf
    split <;> exact Nat.le_of_ble_eq_true rfl
  refine w_aload_n C dL_law_734 rfl ?_
  refine w_aload_n C dL_law_735 rfl ?_
  refine w_iload C dL_law_736 rfl ?_
  refine w_iconst C dL_law_738 ?_
  refine w_iadd C dL_law_739 ?_
  refine w_sld C hX hbl hbA had dL_law_740 (by omega) hL ?_
  refine w_aload_n C dL_law_741 rfl ?_
  refine w_subS sdR C (as := [aO 0 0, aI (xs (i + 1).toNat).toInt, aO 80 0]) dL_law_742 (apR _ _) (cnS_R _ _) (fun b1 => h_cellsOf hl (c_X6_cellsOf hl hI.1 (Nat.le_refl _) hR _ x1)) mhL_cellsOf sL_cellsOf lk_L_167 rfl rfl ⟨by omega, by omega, by omega, by omega⟩ (Nat.le_of_ble_eq_true rfl) (fun r M1 hp => ?_)
  obtain ⟨rfl, hR1, hM1, ho1⟩ := side_a hM hp (by rw [eo]; exact hP)
  rw [eo] at hR1
  refine w_istore C dL_law_745 (by decide) ?_
  refine w_aload_n C dL_law_747 rfl ?_
  refine w_aload_n C dL_law_748 rfl ?_
  refine w_iload C dL_law_749 rfl ?_
  refine w_iconst C dL_law_751 ?_
  refine w_iadd C dL_law_752 ?_
  refine w_sld C hX hbl hbA had dL_law_753 (by omega) hL ?_
  refine w_subV sdM C (as := [aI (xs (i + 1).toNat).toInt]) dL_law_754 (apM _ _) (cnS_M _ _) (fun b1 => c_X7_cellsOf hl hI.1 hM1 _ x1) mX7_cellsOf vX7_cellsOf lk_L_170 i40 rfl rfl rfl rfl ⟨by omega, by omega, by omega, by omega⟩ (Nat.le_of_ble_eq_true rfl) (fun r M2 hp2 => ?_)
  obtain ⟨⟨v, rfl, hv⟩, hM2, hR2, hth, hout⟩ := side_b hR1 hP hp2
  rw [eo] at hM2
  refine w_istore C dL_law_757 (by decide) ?_
  refine w_tail hl C rfl dL_law_759 dL_law_760 dL_law_763 dL_law_765 dL_law_770 dL_law_772 dL_law_775 dL_law_776 dL_law_777 dL_law_778 dL_law_780 dL_law_781 dL_law_782 ⟨by omega, by omega, by omega, by omega⟩ rfl rfl rfl rfl eo1 hth (fun h => by rw [hout, ho1 h, hv h]) ?_
  refine w_goto C dL_law_787 ?_
  exact Wm.lsub (lv' := lvL i) ⟨rfl, rfl, rfl, rfl, rfl, rfl, trivial⟩ (kk _ _ _ (by omega) (by omega) hR2 hM2)
end Cs
