/-! the cases of the law: lay, reason -/
section Cs
variable {p : Program} {l : Launch} {e : Env} {R : Room} {s : State} {m : MethodId} {args : Array Value} {below : List Frame} {meth : Method} {c : Code} {D : va_G} {cA : Nat → ClassId} {b0 : Nat → Prop} {cells slots : Nat} {Q : State → Prop} {ad : Ads} {M : Mem} {tab : List ExceptionTableEntry}
theorem k_layW (hl : l.stackTraces = false) (C : Cx l p s m args meth c cL_law RL 9 D cA b0 tab) {b L : Nat} {xs : Nat → Int32} (hX : va_X b L xs s s.heap) (hbl : b < s.heap.size) (hbA : ¬ b0 b) (had : ad 99 0 = b) (hL : L ≤ 2147483647) {S : Sg} {P : List Pc} {nx n : Nat} {i : Int} (hI : LI S P nx n) (hn : n < 600) (hR : RepRoom S P nx M) (hM : RepMo S P nx M) (hi : 0 ≤ i ∧ i + 5 < L) (hroom : 40 ≤ R.frames ∧ 4000 ≤ R.locals ∧ cells + 1000 ≤ R.cells ∧ slots + 12000 ≤ R.slots)
    (kk : KL p l e R s m args below meth c D cA b0 cells slots Q b i n) : Wm p l e R s m args below meth c 9 D cA b0 cells slots Q 790 (lvL i) [] ad (cnB (nsS S) (ntS S)) M := by
  have i40 : inD (cnB (nsS S) (ntS S)) 40 0 := Nat.zero_lt_one
  have i0 : inD (cnB (nsS S) (ntS S)) 0 0 := Nat.zero_lt_one
  have hnx : nx < 1000000 := by have := hI.2.2.2.1; omega
  have hmd : ∀ y, mdS S y < 1000000 := fun y => by have := hI.2.2.2.2 y; omega
  have x1 := rg32 (xs (i + 1).toNat)
  have x2 := rg32 (xs (i + 2).toNat)
  have x3 := rg32 (xs (i + 3).toNat)
  have x4 := rg32 (xs (i + 4).toNat)
  have x5 := rg32 (xs (i + 5).toNat)
  have hL1 : LIR (oLay (xs (i + 1).toNat).toInt (xs (i + 2).toNat).toInt (xs (i + 3).toNat).toInt (xs (i + 4).toNat).toInt (wb (xs (i + 5).toNat).toInt) S P nx) (n + 1) := li_lay hI _ _ _ _ _ (wb_le _)
  have ens : nsS (oLay (xs (i + 1).toNat).toInt (xs (i + 2).toNat).toInt (xs (i + 3).toNat).toInt (xs (i + 4).toNat).toInt (wb (xs (i + 5).toNat).toInt) S P nx).2.2.1 = nsS S := by
    unfold oLay
    (repeat' split) <;> rfl
  have ent : ntS (oLay (xs (i + 1).toNat).toInt (xs (i + 2).toNat).toInt (xs (i + 3).toNat).toInt (xs (i + 4).toNat).toInt (wb (xs (i + 5).toNat).toInt) S P nx).2.2.1 = ntS S := by
    unfold oLay
    (repeat' split) <;> rfl
  have ecd : (oLay (xs (i + 1).toNat).toInt (xs (i + 2).toNat).toInt (xs (i + 3).toNat).toInt (xs (i + 4).toNat).toInt (wb (xs (i + 5).toNat).toInt) S P nx).1 ≤ 9 := by
    unfold oLay
    (repeat' split) <;> exact Nat.le_of_ble_eq_true rfl
  refine w_aload_n C dL_law_790 rfl ?_
  refine w_arg C hX hbl hbA had hL hi (by omega) dL_law_791 dL_law_792 dL_law_794 dL_law_795 dL_law_796 rfl rfl ?_
  refine w_arg C hX hbl hbA had hL hi (by omega) dL_law_797 dL_law_798 dL_law_800 dL_law_801 dL_law_802 rfl rfl ?_
  refine w_arg C hX hbl hbA had hL hi (by omega) dL_law_803 dL_law_804 dL_law_806 dL_law_807 dL_law_808 rfl rfl ?_
  refine w_arg C hX hbl hbA had hL hi (by omega) dL_law_809 dL_law_810 dL_law_812 dL_law_813 dL_law_814 rfl rfl ?_
  refine w_arg C hX hbl hbA had hL hi (by omega) dL_law_815 dL_law_816 dL_law_818 dL_law_819 dL_law_820 rfl rfl ?_
  refine w_nz C x5 dL_law_821 dL_law_824 dL_law_825 dL_law_828 ?_
  refine w_aload_n C dL_law_829 rfl ?_
  refine w_subS sdR C (as := [aO 0 0, aI (xs (i + 1).toNat).toInt, aI (xs (i + 2).toNat).toInt, aI (xs (i + 3).toNat).toInt, aI (xs (i + 4).toNat).toInt, aI (wb (xs (i + 5).toNat).toInt : Nat), aO 80 0]) dL_law_830 (apR _ _) (cnS_R _ _) (fun b1 => h_lay hl (c_X6_lay hl hI.1 hnx (Nat.le_refl _) hR _ _ _ _ _ (wb_le _) x1 x2 x3 x4)) mhL_lay sL_lay lk_L_171 rfl rfl ⟨by omega, by omega, by omega, by omega⟩ (Nat.le_of_ble_eq_true rfl) (fun r M1 hp => ?_)
  obtain ⟨rfl, hR1, hM1, ho1⟩ := side_a hM hp hL1.1.2.2.1
  refine w_istore C dL_law_833 (by decide) ?_
  refine w_aload_n C dL_law_835 rfl ?_
  refine w_arg C hX hbl hbA had hL hi (by omega) dL_law_836 dL_law_837 dL_law_839 dL_law_840 dL_law_841 rfl rfl ?_
  refine w_arg C hX hbl hbA had hL hi (by omega) dL_law_842 dL_law_843 dL_law_845 dL_law_846 dL_law_847 rfl rfl ?_
  refine w_arg C hX hbl hbA had hL hi (by omega) dL_law_848 dL_law_849 dL_law_851 dL_law_852 dL_law_853 rfl rfl ?_
  refine w_arg C hX hbl hbA had hL hi (by omega) dL_law_854 dL_law_855 dL_law_857 dL_law_858 dL_law_859 rfl rfl ?_
  refine w_arg C hX hbl hbA had hL hi (by omega) dL_law_860 dL_law_861 dL_law_863 dL_law_864 dL_law_865 rfl rfl ?_
  refine w_nz C x5 dL_law_866 dL_law_869 dL_law_870 dL_law_873 ?_
  refine w_subV sdM C (as := [aI (xs (i + 1).toNat).toInt, aI (xs (i + 2).toNat).toInt, aI (xs (i + 3).toNat).toInt, aI (xs (i + 4).toNat).toInt, aI (wb (xs (i + 5).toNat).toInt : Nat)]) dL_law_874 (apM _ _) (cnS_M _ _) (fun b1 => c_X7_lay hl hI.1 hI.2.2.1 hnx hM1 _ _ _ _ _ (wb_le _) x1 x2 x3 x4) mX7_lay vX7_lay lk_L_174 Nat.zero_lt_one rfl rfl rfl rfl ⟨by omega, by omega, by omega, by omega⟩ (Nat.le_of_ble_eq_true rfl) (fun r M2 hp2 => ?_)
  obtain ⟨⟨v, rfl, hv⟩, hM2, hR2, hth, hout⟩ := side_b hR1 hL1.1.2.2.1 hp2
  refine w_istore C dL_law_877 (by decide) ?_
  refine w_tail hl C rfl dL_law_879 dL_law_880 dL_law_883 dL_law_885 dL_law_890 dL_law_892 dL_law_895 dL_law_896 dL_law_897 dL_law_898 dL_law_900 dL_law_901 dL_law_902 ⟨by omega, by omega, by omega, by omega⟩ rfl rfl rfl rfl ecd hth (fun h => by rw [hout, ho1 h, hv h]) ?_
  refine w_goto C dL_law_907 ?_
  refine Wm.lsub (lv' := lvL i) ⟨rfl, rfl, rfl, rfl, rfl, rfl, trivial⟩ ?_
  rw [← ens, ← ent]
  exact kk _ _ _ _ _ _ _ (by omega) (by omega) hL1 hR2 hM2 had
theorem k_reasonW (hl : l.stackTraces = false) (C : Cx l p s m args meth c cL_law RL 9 D cA b0 tab) {b L : Nat} {xs : Nat → Int32} (hX : va_X b L xs s s.heap) (hbl : b < s.heap.size) (hbA : ¬ b0 b) (had : ad 99 0 = b) (hL : L ≤ 2147483647) {S : Sg} {P : List Pc} {nx n : Nat} {i : Int} (hI : LI S P nx n) (hn : n < 600) (hR : RepRoom S P nx M) (hM : RepMo S P nx M) (hi : 0 ≤ i ∧ i + 5 < L) (hroom : 40 ≤ R.frames ∧ 4000 ≤ R.locals ∧ cells + 1000 ≤ R.cells ∧ slots + 12000 ≤ R.slots)
    (kk : KL p l e R s m args below meth c D cA b0 cells slots Q b i n) : Wm p l e R s m args below meth c 9 D cA b0 cells slots Q 910 (lvL i) [] ad (cnB (nsS S) (ntS S)) M := by
  have i40 : inD (cnB (nsS S) (ntS S)) 40 0 := Nat.zero_lt_one
  have i0 : inD (cnB (nsS S) (ntS S)) 0 0 := Nat.zero_lt_one
  have hnx : nx < 1000000 := by have := hI.2.2.2.1; omega
  have hmd : ∀ y, mdS S y < 1000000 := fun y => by have := hI.2.2.2.2 y; omega
  have x1 := rg32 (xs (i + 1).toNat)
  have x2 := rg32 (xs (i + 2).toNat)
  have x3 := rg32 (xs (i + 3).toNat)
  have x4 := rg32 (xs (i + 4).toNat)
  have x5 := rg32 (xs (i + 5).toNat)
  have hL1 : LIR (oReason (xs (i + 1).toNat).toInt (xs (i + 2).toNat).toInt (xs (i + 3).toNat).toInt (xs (i + 4).toNat).toInt (wb (xs (i + 5).toNat).toInt) S P nx) (n + 1) := by
    have h9 := hI.up
    unfold LIR oReason
    (repeat' split) <;> exact h9
  have ens : nsS (oReason (xs (i + 1).toNat).toInt (xs (i + 2).toNat).toInt (xs (i + 3).toNat).toInt (xs (i + 4).toNat).toInt (wb (xs (i + 5).toNat).toInt) S P nx).2.2.1 = nsS S := by
    unfold oReason
    (repeat' split) <;> rfl
  have ent : ntS (oReason (xs (i + 1).toNat).toInt (xs (i + 2).toNat).toInt (xs (i + 3).toNat).toInt (xs (i + 4).toNat).toInt (wb (xs (i + 5).toNat).toInt) S P nx).2.2.1 = ntS S := by
    unfold oReason
    (repeat' split) <;> rfl
  have ecd : (oReason (xs (i + 1).toNat).toInt (xs (i + 2).toNat).toInt (xs (i + 3).toNat).toInt (xs (i + 4).toNat).toInt (wb (xs (i + 5).toNat).toInt) S P nx).1 ≤ 9 := by
    unfold oReason
    (repeat' split) <;> exact Nat.le_of_ble_eq_true rfl
  refine w_aload_n C dL_law_910 rfl ?_
  refine w_arg C hX hbl hbA had hL hi (by omega) dL_law_911 dL_law_912 dL_law_914 dL_law_915 dL_law_916 rfl rfl ?_
  refine w_arg C hX hbl hbA had hL hi (by omega) dL_law_917 dL_law_918 dL_law_920 dL_law_921 dL_law_922 rfl rfl ?_
  refine w_arg C hX hbl hbA had hL hi (by omega) dL_law_923 dL_law_924 dL_law_926 dL_law_927 dL_law_928 rfl rfl ?_
  refine w_arg C hX hbl hbA had hL hi (by omega) dL_law_929 dL_law_930 dL_law_932 dL_law_933 dL_law_934 rfl rfl ?_
  refine w_arg C hX hbl hbA had hL hi (by omega) dL_law_935 dL_law_936 dL_law_938 dL_law_939 dL_law_940 rfl rfl ?_
  refine w_nz C x5 dL_law_941 dL_law_944 dL_law_945 dL_law_948 ?_
  refine w_aload_n C dL_law_949 rfl ?_
  refine w_subS sdR C (as := [aO 0 0, aI (xs (i + 1).toNat).toInt, aI (xs (i + 2).toNat).toInt, aI (xs (i + 3).toNat).toInt, aI (xs (i + 4).toNat).toInt, aI (wb (xs (i + 5).toNat).toInt : Nat), aO 80 0]) dL_law_950 (apR _ _) (cnS_R _ _) (fun b1 => h_reason hl (c_X6_reason hl hI.1 (Nat.le_refl _) hR _ _ _ _ _ (wb_le _) x1 x2 x3 x4)) mhL_reason sL_reason lk_L_175 rfl rfl ⟨by omega, by omega, by omega, by omega⟩ (Nat.le_of_ble_eq_true rfl) (fun r M1 hp => ?_)
  obtain ⟨rfl, hR1, hM1, ho1⟩ := side_a hM hp hL1.1.2.2.1
  refine w_istore C dL_law_953 (by decide) ?_
  refine w_aload_n C dL_law_955 rfl ?_
  refine w_arg C hX hbl hbA had hL hi (by omega) dL_law_956 dL_law_957 dL_law_959 dL_law_960 dL_law_961 rfl rfl ?_
  refine w_arg C hX hbl hbA had hL hi (by omega) dL_law_962 dL_law_963 dL_law_965 dL_law_966 dL_law_967 rfl rfl ?_
  refine w_arg C hX hbl hbA had hL hi (by omega) dL_law_968 dL_law_969 dL_law_971 dL_law_972 dL_law_973 rfl rfl ?_
  refine w_arg C hX hbl hbA had hL hi (by omega) dL_law_974 dL_law_975 dL_law_977 dL_law_978 dL_law_979 rfl rfl ?_
  refine w_arg C hX hbl hbA had hL hi (by omega) dL_law_980 dL_law_981 dL_law_983 dL_law_984 dL_law_985 rfl rfl ?_
  refine w_nz C x5 dL_law_986 dL_law_989 dL_law_990 dL_law_993 ?_
  refine w_subV sdM C (as := [aI (xs (i + 1).toNat).toInt, aI (xs (i + 2).toNat).toInt, aI (xs (i + 3).toNat).toInt, aI (xs (i + 4).toNat).toInt, aI (wb (xs (i + 5).toNat).toInt : Nat)]) dL_law_994 (apM _ _) (cnS_M _ _) (fun b1 => c_X7_reason hl hI.1 hI.2.2.1 hnx hM1 _ _ _ _ _ (wb_le _) x1 x2 x3 x4) mX7_reason vX7_reason lk_L_177 Nat.zero_lt_one rfl rfl rfl rfl ⟨by omega, by omega, by omega, by omega⟩ (Nat.le_of_ble_eq_true rfl) (fun r M2 hp2 => ?_)
  obtain ⟨⟨v, rfl, hv⟩, hM2, hR2, hth, hout⟩ := side_b hR1 hL1.1.2.2.1 hp2
  refine w_istore C dL_law_997 (by decide) ?_
  refine w_tail hl C rfl dL_law_999 dL_law_1000 dL_law_1003 dL_law_1005 dL_law_1010 dL_law_1012 dL_law_1015 dL_law_1016 dL_law_1017 dL_law_1018 dL_law_1020 dL_law_1021 dL_law_1022 ⟨by omega, by omega, by omega, by omega⟩ rfl rfl rfl rfl ecd hth (fun h => by rw [hout, ho1 h, hv h]) ?_
  refine w_goto C dL_law_1027 ?_
  refine Wm.lsub (lv' := lvL i) ⟨rfl, rfl, rfl, rfl, rfl, rfl, trivial⟩ ?_
  rw [← ens, ← ent]
  exact kk _ _ _ _ _ _ _ (by omega) (by omega) hL1 hR2 hM2 had
end Cs
