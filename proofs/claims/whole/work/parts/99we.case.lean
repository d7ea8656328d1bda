/-! the cases of the law: nest, takeOff, clear, inMarker -/
section Cs
variable {p : Program} {l : Launch} {e : Env} {R : Room} {s : State} {m : MethodId} {args : Array Value} {below : List Frame} {meth : Method} {c : Code} {D : va_G} {cA : Nat → ClassId} {b0 : Nat → Prop} {cells slots : Nat} {Q : State → Prop} {ad : Ads} {M : Mem} {tab : List ExceptionTableEntry}
theorem k_nestW (hl : l.stackTraces = false) (C : Cx l p s m args meth c cL_law RL 9 D cA b0 tab) {b L : Nat} {xs : Nat → Int32} (hX : va_X b L xs s s.heap) (hbl : b < s.heap.size) (hbA : ¬ b0 b) (had : ad 99 0 = b) (hL : L ≤ 2147483647) {S : Sg} {P : List Pc} {nx n : Nat} {i : Int} (hI : LI S P nx n) (hn : n < 600) (hR : RepRoom S P nx M) (hM : RepMo S P nx M) (hi : 0 ≤ i ∧ i + 5 < L) (hroom : 40 ≤ R.frames ∧ 4000 ≤ R.locals ∧ cells + 1000 ≤ R.cells ∧ slots + 12000 ≤ R.slots)
    (kk : KL p l e R s m args below meth c D cA b0 cells slots Q b i n) : Wm p l e R s m args below meth c 9 D cA b0 cells slots Q 1030 (lvL i) [] ad (cnB (nsS S) (ntS S)) M := by
  have i40 : inD (cnB (nsS S) (ntS S)) 40 0 := Nat.zero_lt_one
  have i0 : inD (cnB (nsS S) (ntS S)) 0 0 := Nat.zero_lt_one
  have hnx : nx < 1000000 := by have := hI.2.2.2.1; omega
  have hmd : ∀ y, mdS S y < 1000000 := fun y => by have := hI.2.2.2.2 y; omega
  have x1 := rg32 (xs (i + 1).toNat)
  have x2 := rg32 (xs (i + 2).toNat)
  obtain ⟨z9, hz9⟩ : ∃ z9, FSp S P (xs (i + 1).toNat).toInt.toNat (wb (xs (i + 2).toNat).toInt) z9 := ⟨zF S P (xs (i + 1).toNat).toInt.toNat (wb (xs (i + 2).toNat).toInt), zF_sp S P _ _⟩
  have hL1 : LIR (oNest (xs (i + 1).toNat).toInt (wb (xs (i + 2).toNat).toInt) z9 S P nx) (n + 1) := li_nest hI _ _ (wb_le _) _ hz9
  have ens : nsS (oNest (xs (i + 1).toNat).toInt (wb (xs (i + 2).toNat).toInt) z9 S P nx).2.2.1 = nsS S := by
    unfold oNest
    (repeat' split) <;> rfl
  have ent : ntS (oNest (xs (i + 1).toNat).toInt (wb (xs (i + 2).toNat).toInt) z9 S P nx).2.2.1 = ntS S := by
    unfold oNest
    (repeat' split) <;> rfl
  have ecd : (oNest (xs (i + 1).toNat).toInt (wb (xs (i + 2).toNat).toInt) z9 S P nx).1 ≤ 9 := by
    unfold oNest
    (repeat' split) <;> exact Nat.le_of_ble_eq_true rfl
  refine w_aload_n C dL_law_1030 rfl ?_
  refine w_arg C hX hbl hbA had hL hi (by omega) dL_law_1031 dL_law_1032 dL_law_1034 dL_law_1035 dL_law_1036 rfl rfl ?_
  refine w_arg C hX hbl hbA had hL hi (by omega) dL_law_1037 dL_law_1038 dL_law_1040 dL_law_1041 dL_law_1042 rfl rfl ?_
  refine w_nz C x2 dL_law_1043 dL_law_1046 dL_law_1047 dL_law_1050 ?_
  refine w_aload_n C dL_law_1051 rfl ?_
  refine w_subS sdR C (as := [aO 0 0, aI (xs (i + 1).toNat).toInt, aI (wb (xs (i + 2).toNat).toInt : Nat), aO 80 0]) dL_law_1052 (apR _ _) (cnS_R _ _) (fun b1 => h_nest hl (c_X6_nest hl hI.1 hnx (Nat.le_refl _) hR _ _ (wb_le _) x1 z9 hz9)) mhL_nest sL_nest lk_L_178 rfl rfl ⟨by omega, by omega, by omega, by omega⟩ (Nat.le_of_ble_eq_true rfl) (fun r M1 hp => ?_)
  obtain ⟨rfl, hR1, hM1, ho1⟩ := side_a hM hp hL1.1.2.2.1
  refine w_istore C dL_law_1055 (by decide) ?_
  refine w_aload_n C dL_law_1057 rfl ?_
  refine w_arg C hX hbl hbA had hL hi (by omega) dL_law_1058 dL_law_1059 dL_law_1061 dL_law_1062 dL_law_1063 rfl rfl ?_
  refine w_arg C hX hbl hbA had hL hi (by omega) dL_law_1064 dL_law_1065 dL_law_1067 dL_law_1068 dL_law_1069 rfl rfl ?_
  refine w_nz C x2 dL_law_1070 dL_law_1073 dL_law_1074 dL_law_1077 ?_
  refine w_subV sdM C (as := [aI (xs (i + 1).toNat).toInt, aI (wb (xs (i + 2).toNat).toInt : Nat)]) dL_law_1078 (apM _ _) (cnS_M _ _) (fun b1 => c_X7_nest hl hI.1 hI.2.2.1 hnx hM1 _ _ (wb_le _) x1 z9 hz9) mX7_nest vX7_nest lk_L_181 Nat.zero_lt_one rfl rfl rfl rfl ⟨by omega, by omega, by omega, by omega⟩ (Nat.le_of_ble_eq_true rfl) (fun r M2 hp2 => ?_)
  obtain ⟨⟨v, rfl, hv⟩, hM2, hR2, hth, hout⟩ := side_b hR1 hL1.1.2.2.1 hp2
  refine w_istore C dL_law_1081 (by decide) ?_
  refine w_tail hl C rfl dL_law_1083 dL_law_1084 dL_law_1087 dL_law_1089 dL_law_1094 dL_law_1096 dL_law_1099 dL_law_1100 dL_law_1101 dL_law_1102 dL_law_1104 dL_law_1105 dL_law_1106 ⟨by omega, by omega, by omega, by omega⟩ rfl rfl rfl rfl ecd hth (fun h => by rw [hout, ho1 h, hv h]) ?_
  refine w_goto C dL_law_1111 ?_
  refine Wm.lsub (lv' := lvL i) ⟨rfl, rfl, rfl, rfl, rfl, rfl, trivial⟩ ?_
  rw [← ens, ← ent]
  exact kk _ _ _ _ _ _ _ (by omega) (by omega) hL1 hR2 hM2 had
theorem k_takeOffW (hl : l.stackTraces = false) (C : Cx l p s m args meth c cL_law RL 9 D cA b0 tab) {b L : Nat} {xs : Nat → Int32} (hX : va_X b L xs s s.heap) (hbl : b < s.heap.size) (hbA : ¬ b0 b) (had : ad 99 0 = b) (hL : L ≤ 2147483647) {S : Sg} {P : List Pc} {nx n : Nat} {i : Int} (hI : LI S P nx n) (hn : n < 600) (hR : RepRoom S P nx M) (hM : RepMo S P nx M) (hi : 0 ≤ i ∧ i + 5 < L) (hroom : 40 ≤ R.frames ∧ 4000 ≤ R.locals ∧ cells + 1000 ≤ R.cells ∧ slots + 12000 ≤ R.slots)
    (kk : KL p l e R s m args below meth c D cA b0 cells slots Q b i n) : Wm p l e R s m args below meth c 9 D cA b0 cells slots Q 1114 (lvL i) [] ad (cnB (nsS S) (ntS S)) M := by
  have i40 : inD (cnB (nsS S) (ntS S)) 40 0 := Nat.zero_lt_one
  have i0 : inD (cnB (nsS S) (ntS S)) 0 0 := Nat.zero_lt_one
  have hnx : nx < 1000000 := by have := hI.2.2.2.1; omega
  have hmd : ∀ y, mdS S y < 1000000 := fun y => by have := hI.2.2.2.2 y; omega
  have x1 := rg32 (xs (i + 1).toNat)
  have hL1 : LIR (oTakeOff (xs (i + 1).toNat).toInt S P nx) (n + 1) := li_takeOff hI _
  have ens : nsS (oTakeOff (xs (i + 1).toNat).toInt S P nx).2.2.1 = nsS S := by
    unfold oTakeOff
    (repeat' split) <;> rfl
  have ent : ntS (oTakeOff (xs (i + 1).toNat).toInt S P nx).2.2.1 = ntS S := by
    unfold oTakeOff
    (repeat' split) <;> rfl
  have ecd : (oTakeOff (xs (i + 1).toNat).toInt S P nx).1 ≤ 9 := by
    unfold oTakeOff
    (repeat' split) <;> exact Nat.le_of_ble_eq_true rfl
  refine w_aload_n C dL_law_1114 rfl ?_
  refine w_arg C hX hbl hbA had hL hi (by omega) dL_law_1115 dL_law_1116 dL_law_1118 dL_law_1119 dL_law_1120 rfl rfl ?_
  refine w_aload_n C dL_law_1121 rfl ?_
  refine w_subS sdR C (as := [aO 0 0, aI (xs (i + 1).toNat).toInt, aO 80 0]) dL_law_1122 (apR _ _) (cnS_R _ _) (fun b1 => h_takeOff hl (c_X6_takeOff hl hI.1 hnx (Nat.le_refl _) hR _ x1)) mhL_takeOff sL_takeOff lk_L_182 rfl rfl ⟨by omega, by omega, by omega, by omega⟩ (Nat.le_of_ble_eq_true rfl) (fun r M1 hp => ?_)
  obtain ⟨rfl, hR1, hM1, ho1⟩ := side_a hM hp hL1.1.2.2.1
  refine w_istore C dL_law_1125 (by decide) ?_
  refine w_aload_n C dL_law_1127 rfl ?_
  refine w_arg C hX hbl hbA had hL hi (by omega) dL_law_1128 dL_law_1129 dL_law_1131 dL_law_1132 dL_law_1133 rfl rfl ?_
  refine w_subV sdM C (as := [aI (xs (i + 1).toNat).toInt]) dL_law_1134 (apM _ _) (cnS_M _ _) (fun b1 => c_X7_takeOff hl hI.1 hnx hM1 _ x1) mX7_takeOff vX7_takeOff lk_L_184 Nat.zero_lt_one rfl rfl rfl rfl ⟨by omega, by omega, by omega, by omega⟩ (Nat.le_of_ble_eq_true rfl) (fun r M2 hp2 => ?_)
  obtain ⟨⟨v, rfl, hv⟩, hM2, hR2, hth, hout⟩ := side_b hR1 hL1.1.2.2.1 hp2
  refine w_istore C dL_law_1137 (by decide) ?_
  refine w_tail hl C rfl dL_law_1139 dL_law_1140 dL_law_1143 dL_law_1145 dL_law_1150 dL_law_1152 dL_law_1155 dL_law_1156 dL_law_1157 dL_law_1158 dL_law_1160 dL_law_1161 dL_law_1162 ⟨by omega, by omega, by omega, by omega⟩ rfl rfl rfl rfl ecd hth (fun h => by rw [hout, ho1 h, hv h]) ?_
  refine w_goto C dL_law_1167 ?_
  refine Wm.lsub (lv' := lvL i) ⟨rfl, rfl, rfl, rfl, rfl, rfl, trivial⟩ ?_
  rw [← ens, ← ent]
  exact kk _ _ _ _ _ _ _ (by omega) (by omega) hL1 hR2 hM2 had
theorem k_clearW (hl : l.stackTraces = false) (C : Cx l p s m args meth c cL_law RL 9 D cA b0 tab) {b L : Nat} {xs : Nat → Int32} (hX : va_X b L xs s s.heap) (hbl : b < s.heap.size) (hbA : ¬ b0 b) (had : ad 99 0 = b) (hL : L ≤ 2147483647) {S : Sg} {P : List Pc} {nx n : Nat} {i : Int} (hI : LI S P nx n) (hn : n < 600) (hR : RepRoom S P nx M) (hM : RepMo S P nx M) (hi : 0 ≤ i ∧ i + 5 < L) (hroom : 40 ≤ R.frames ∧ 4000 ≤ R.locals ∧ cells + 1000 ≤ R.cells ∧ slots + 12000 ≤ R.slots)
    (kk : KL p l e R s m args below meth c D cA b0 cells slots Q b i n) : Wm p l e R s m args below meth c 9 D cA b0 cells slots Q 1170 (lvL i) [] ad (cnB (nsS S) (ntS S)) M := by
  have i40 : inD (cnB (nsS S) (ntS S)) 40 0 := Nat.zero_lt_one
  have i0 : inD (cnB (nsS S) (ntS S)) 0 0 := Nat.zero_lt_one
  have hnx : nx < 1000000 := by have := hI.2.2.2.1; omega
  have hmd : ∀ y, mdS S y < 1000000 := fun y => by have := hI.2.2.2.2 y; omega
  have hL1 : LIR (oClear S P nx) (n + 1) := li_clear hI
  have ens : nsS (oClear S P nx).2.2.1 = nsS S := rfl
  have ent : ntS (oClear S P nx).2.2.1 = ntS S := rfl
  refine w_aload_n C dL_law_1170 rfl ?_
  refine w_subV sdR C (as := []) dL_law_1171 (apR _ _) (cnS_R _ _) (fun b1 => c_X6_clear hl hI.1 hR) mX6_clear vX6_clear lk_L_185 i0 rfl rfl rfl rfl ⟨by omega, by omega, by omega, by omega⟩ (Nat.le_of_ble_eq_true rfl) (fun r M1 hp => ?_)
  obtain ⟨rfl, hR1, hM1⟩ := side_c hM hp hL1.1.2.2.1
  refine w_aload_n C dL_law_1174 rfl ?_
  refine w_subV sdM C (as := []) dL_law_1175 (apM _ _) (cnS_M _ _) (fun b1 => c_X7_clear hl hM1) mX7_clear vX7_clear lk_L_188 i40 rfl rfl rfl rfl ⟨by omega, by omega, by omega, by omega⟩ (Nat.le_of_ble_eq_true rfl) (fun r M2 hp2 => ?_)
  obtain ⟨⟨v, rfl, hv⟩, hM2, hR2, -, -⟩ := side_b hR1 hL1.1.2.2.1 hp2
  refine w_icmpES C dL_law_1178 (hv rfl) ?_
  rw [← ens, ← ent]
  exact kk _ _ _ _ _ _ _ (by omega) (by omega) hL1 hR2 hM2 had
theorem k_inMarkerW (hl : l.stackTraces = false) (C : Cx l p s m args meth c cL_law RL 9 D cA b0 tab) {b L : Nat} {xs : Nat → Int32} (hX : va_X b L xs s s.heap) (hbl : b < s.heap.size) (hbA : ¬ b0 b) (had : ad 99 0 = b) (hL : L ≤ 2147483647) {S : Sg} {P : List Pc} {nx n : Nat} {i : Int} (hI : LI S P nx n) (hn : n < 600) (hR : RepRoom S P nx M) (hM : RepMo S P nx M) (hi : 0 ≤ i ∧ i + 5 < L) (hroom : 40 ≤ R.frames ∧ 4000 ≤ R.locals ∧ cells + 1000 ≤ R.cells ∧ slots + 12000 ≤ R.slots)
    (kk : KL p l e R s m args below meth c D cA b0 cells slots Q b i n) : Wm p l e R s m args below meth c 9 D cA b0 cells slots Q 1183 (lvL i) [] ad (cnB (nsS S) (ntS S)) M := by
  have i40 : inD (cnB (nsS S) (ntS S)) 40 0 := Nat.zero_lt_one
  have i0 : inD (cnB (nsS S) (ntS S)) 0 0 := Nat.zero_lt_one
  have hnx : nx < 1000000 := by have := hI.2.2.2.1; omega
  have hmd : ∀ y, mdS S y < 1000000 := fun y => by have := hI.2.2.2.2 y; omega
  have hL1 : LIR (oInMarker S P nx) (n + 1) := hI.up
  have ens : nsS (oInMarker S P nx).2.2.1 = nsS S := rfl
  have ent : ntS (oInMarker S P nx).2.2.1 = ntS S := rfl
  refine w_aload_n C dL_law_1183 rfl ?_
  refine w_subV sdR C (as := []) dL_law_1184 (apR _ _) (cnS_R _ _) (fun b1 => c_X6_inMarker hl hR) mX6_inMarker vX6_inMarker lk_L_189 i0 rfl rfl rfl rfl ⟨by omega, by omega, by omega, by omega⟩ (Nat.le_of_ble_eq_true rfl) (fun r M1 hp => ?_)
  obtain ⟨rfl, hR1, hM1⟩ := side_c hM hp hL1.1.2.2.1
  refine w_aload_n C dL_law_1187 rfl ?_
  refine w_subV sdM C (as := []) dL_law_1188 (apM _ _) (cnS_M _ _) (fun b1 => c_X7_inMarker hl hM1) mX7_inMarker vX7_inMarker lk_L_192 i40 rfl rfl rfl rfl ⟨by omega, by omega, by omega, by omega⟩ (Nat.le_of_ble_eq_true rfl) (fun r M2 hp2 => ?_)
  obtain ⟨⟨v, rfl, hv⟩, hM2, hR2, -, -⟩ := side_b hR1 hL1.1.2.2.1 hp2
  refine w_icmpES C dL_law_1191 (hv rfl) ?_
  rw [← ens, ← ent]
  exact kk _ _ _ _ _ _ _ (by omega) (by omega) hL1 hR2 hM2 had
end Cs
