/-! the cases of the law: cellsOf, rowOf, columnOf, turnsOf -/
section Cs
variable {p : Program} {l : Launch} {e : Env} {R : Room} {s : State} {m : MethodId} {args : Array Value} {below : List Frame} {meth : Method} {c : Code} {D : va_G} {cA : Nat → ClassId} {b0 : Nat → Prop} {cells slots : Nat} {Q : State → Prop} {ad : Ads} {M : Mem} {tab : List ExceptionTableEntry}
theorem k_cellsOfW (hl : l.stackTraces = false) (C : Cx l p s m args meth c cL_law RL 9 D cA b0 tab) {b L : Nat} {xs : Nat → Int32} (hX : va_X b L xs s s.heap) (hbl : b < s.heap.size) (hbA : ¬ b0 b) (had : ad 99 0 = b) (hL : L ≤ 2147483647) {S : Sg} {P : List Pc} {nx n : Nat} {i : Int} (hI : LI S P nx n) (hn : n < 600) (hR : RepRoom S P nx M) (hM : RepMo S P nx M) (hi : 0 ≤ i ∧ i + 5 < L) (hroom : 40 ≤ R.frames ∧ 4000 ≤ R.locals ∧ cells + 1000 ≤ R.cells ∧ slots + 12000 ≤ R.slots)
    (kk : KL p l e R s m args below meth c D cA b0 cells slots Q b i n) : Wm p l e R s m args below meth c 9 D cA b0 cells slots Q 734 (lvL i) [] ad (cnB (nsS S) (ntS S)) M := by
  have i40 : inD (cnB (nsS S) (ntS S)) 40 0 := Nat.zero_lt_one
  have i0 : inD (cnB (nsS S) (ntS S)) 0 0 := Nat.zero_lt_one
  have hnx : nx < 1000000 := by have := hI.2.2.2.1; omega
  have hmd : ∀ y, mdS S y < 1000000 := fun y => by have := hI.2.2.2.2 y; omega
  have x1 := rg32 (xs (i + 1).toNat)
  have hL1 : LIR (oCellsOf (xs (i + 1).toNat).toInt S P nx) (n + 1) := by
    have h9 := hI.up
    unfold LIR oCellsOf
    (repeat' split) <;> exact h9
  have ens : nsS (oCellsOf (xs (i + 1).toNat).toInt S P nx).2.2.1 = nsS S := by
    unfold oCellsOf
    (repeat' split) <;> rfl
  have ent : ntS (oCellsOf (xs (i + 1).toNat).toInt S P nx).2.2.1 = ntS S := by
    unfold oCellsOf
    (repeat' split) <;> rfl
  have ecd : (oCellsOf (xs (i + 1).toNat).toInt S P nx).1 ≤ 9 := by
    unfold oCellsOf
    (repeat' split) <;> exact Nat.le_of_ble_eq_true rfl
  refine w_aload_n C dL_law_734 rfl ?_
  refine w_arg C hX hbl hbA had hL hi (by omega) dL_law_735 dL_law_736 dL_law_738 dL_law_739 dL_law_740 rfl rfl ?_
  refine w_aload_n C dL_law_741 rfl ?_
  refine w_subS sdR C (as := [aO 0 0, aI (xs (i + 1).toNat).toInt, aO 80 0]) dL_law_742 (apR _ _) (cnS_R _ _) (fun b1 => h_cellsOf hl (c_X6_cellsOf hl hI.1 (Nat.le_refl _) hR _ x1)) mhL_cellsOf sL_cellsOf lk_L_167 rfl rfl ⟨by omega, by omega, by omega, by omega⟩ (Nat.le_of_ble_eq_true rfl) (fun r M1 hp => ?_)
  obtain ⟨rfl, hR1, hM1, ho1⟩ := side_a hM hp hL1.1.2.2.1
  refine w_istore C dL_law_745 (by decide) ?_
  refine w_aload_n C dL_law_747 rfl ?_
  refine w_arg C hX hbl hbA had hL hi (by omega) dL_law_748 dL_law_749 dL_law_751 dL_law_752 dL_law_753 rfl rfl ?_
  refine w_subV sdM C (as := [aI (xs (i + 1).toNat).toInt]) dL_law_754 (apM _ _) (cnS_M _ _) (fun b1 => c_X7_cellsOf hl hI.1 hM1 _ x1) mX7_cellsOf vX7_cellsOf lk_L_170 Nat.zero_lt_one rfl rfl rfl rfl ⟨by omega, by omega, by omega, by omega⟩ (Nat.le_of_ble_eq_true rfl) (fun r M2 hp2 => ?_)
  obtain ⟨⟨v, rfl, hv⟩, hM2, hR2, hth, hout⟩ := side_b hR1 hL1.1.2.2.1 hp2
  refine w_istore C dL_law_757 (by decide) ?_
  refine w_tail hl C rfl dL_law_759 dL_law_760 dL_law_763 dL_law_765 dL_law_770 dL_law_772 dL_law_775 dL_law_776 dL_law_777 dL_law_778 dL_law_780 dL_law_781 dL_law_782 ⟨by omega, by omega, by omega, by omega⟩ rfl rfl rfl rfl ecd hth (fun h => by rw [hout, ho1 h, hv h]) ?_
  refine w_goto C dL_law_787 ?_
  refine Wm.lsub (lv' := lvL i) ⟨rfl, rfl, rfl, rfl, rfl, rfl, trivial⟩ ?_
  rw [← ens, ← ent]
  exact kk _ _ _ _ _ _ _ (by omega) (by omega) hL1 hR2 hM2 had
theorem k_rowOfW (hl : l.stackTraces = false) (C : Cx l p s m args meth c cL_law RL 9 D cA b0 tab) {b L : Nat} {xs : Nat → Int32} (hX : va_X b L xs s s.heap) (hbl : b < s.heap.size) (hbA : ¬ b0 b) (had : ad 99 0 = b) (hL : L ≤ 2147483647) {S : Sg} {P : List Pc} {nx n : Nat} {i : Int} (hI : LI S P nx n) (hn : n < 600) (hR : RepRoom S P nx M) (hM : RepMo S P nx M) (hi : 0 ≤ i ∧ i + 5 < L) (hroom : 40 ≤ R.frames ∧ 4000 ≤ R.locals ∧ cells + 1000 ≤ R.cells ∧ slots + 12000 ≤ R.slots)
    (kk : KL p l e R s m args below meth c D cA b0 cells slots Q b i n) : Wm p l e R s m args below meth c 9 D cA b0 cells slots Q 1196 (lvL i) [] ad (cnB (nsS S) (ntS S)) M := by
  have i40 : inD (cnB (nsS S) (ntS S)) 40 0 := Nat.zero_lt_one
  have i0 : inD (cnB (nsS S) (ntS S)) 0 0 := Nat.zero_lt_one
  have hnx : nx < 1000000 := by have := hI.2.2.2.1; omega
  have hmd : ∀ y, mdS S y < 1000000 := fun y => by have := hI.2.2.2.2 y; omega
  have x1 := rg32 (xs (i + 1).toNat)
  have hL1 : LIR (oPc pRow (xs (i + 1).toNat).toInt S P nx) (n + 1) := by
    have h9 := hI.up
    unfold LIR oPc
    (repeat' split) <;> exact h9
  have ens : nsS (oPc pRow (xs (i + 1).toNat).toInt S P nx).2.2.1 = nsS S := by
    unfold oPc
    (repeat' split) <;> rfl
  have ent : ntS (oPc pRow (xs (i + 1).toNat).toInt S P nx).2.2.1 = ntS S := by
    unfold oPc
    (repeat' split) <;> rfl
  have ecd : (oPc pRow (xs (i + 1).toNat).toInt S P nx).1 ≤ 9 := by
    unfold oPc
    (repeat' split) <;> exact Nat.le_of_ble_eq_true rfl
  refine w_aload_n C dL_law_1196 rfl ?_
  refine w_arg C hX hbl hbA had hL hi (by omega) dL_law_1197 dL_law_1198 dL_law_1200 dL_law_1201 dL_law_1202 rfl rfl ?_
  refine w_aload_n C dL_law_1203 rfl ?_
  refine w_subS sdR C (as := [aO 0 0, aI (xs (i + 1).toNat).toInt, aO 80 0]) dL_law_1204 (apR _ _) (cnS_R _ _) (fun b1 => h_rowOf hl (c_X6_rowOf hl hI.1 hnx hR _ x1)) mhL_rowOf sL_rowOf lk_L_193 rfl rfl ⟨by omega, by omega, by omega, by omega⟩ (Nat.le_of_ble_eq_true rfl) (fun r M1 hp => ?_)
  obtain ⟨rfl, hR1, hM1, ho1⟩ := side_a hM hp hL1.1.2.2.1
  refine w_istore C dL_law_1207 (by decide) ?_
  refine w_aload_n C dL_law_1209 rfl ?_
  refine w_arg C hX hbl hbA had hL hi (by omega) dL_law_1210 dL_law_1211 dL_law_1213 dL_law_1214 dL_law_1215 rfl rfl ?_
  refine w_subV sdM C (as := [aI (xs (i + 1).toNat).toInt]) dL_law_1216 (apM _ _) (cnS_M _ _) (fun b1 => c_X7_rowOf hl hI.1 hnx hM1 _ x1) mX7_rowOf vX7_rowOf lk_L_195 Nat.zero_lt_one rfl rfl rfl rfl ⟨by omega, by omega, by omega, by omega⟩ (Nat.le_of_ble_eq_true rfl) (fun r M2 hp2 => ?_)
  obtain ⟨⟨v, rfl, hv⟩, hM2, hR2, hth, hout⟩ := side_b hR1 hL1.1.2.2.1 hp2
  refine w_istore C dL_law_1219 (by decide) ?_
  refine w_tail hl C rfl dL_law_1221 dL_law_1222 dL_law_1225 dL_law_1227 dL_law_1232 dL_law_1234 dL_law_1237 dL_law_1238 dL_law_1239 dL_law_1240 dL_law_1242 dL_law_1243 dL_law_1244 ⟨by omega, by omega, by omega, by omega⟩ rfl rfl rfl rfl ecd hth (fun h => by rw [hout, ho1 h, hv h]) ?_
  refine w_goto C dL_law_1249 ?_
  refine Wm.lsub (lv' := lvL i) ⟨rfl, rfl, rfl, rfl, rfl, rfl, trivial⟩ ?_
  rw [← ens, ← ent]
  exact kk _ _ _ _ _ _ _ (by omega) (by omega) hL1 hR2 hM2 had
theorem k_columnOfW (hl : l.stackTraces = false) (C : Cx l p s m args meth c cL_law RL 9 D cA b0 tab) {b L : Nat} {xs : Nat → Int32} (hX : va_X b L xs s s.heap) (hbl : b < s.heap.size) (hbA : ¬ b0 b) (had : ad 99 0 = b) (hL : L ≤ 2147483647) {S : Sg} {P : List Pc} {nx n : Nat} {i : Int} (hI : LI S P nx n) (hn : n < 600) (hR : RepRoom S P nx M) (hM : RepMo S P nx M) (hi : 0 ≤ i ∧ i + 5 < L) (hroom : 40 ≤ R.frames ∧ 4000 ≤ R.locals ∧ cells + 1000 ≤ R.cells ∧ slots + 12000 ≤ R.slots)
    (kk : KL p l e R s m args below meth c D cA b0 cells slots Q b i n) : Wm p l e R s m args below meth c 9 D cA b0 cells slots Q 1252 (lvL i) [] ad (cnB (nsS S) (ntS S)) M := by
  have i40 : inD (cnB (nsS S) (ntS S)) 40 0 := Nat.zero_lt_one
  have i0 : inD (cnB (nsS S) (ntS S)) 0 0 := Nat.zero_lt_one
  have hnx : nx < 1000000 := by have := hI.2.2.2.1; omega
  have hmd : ∀ y, mdS S y < 1000000 := fun y => by have := hI.2.2.2.2 y; omega
  have x1 := rg32 (xs (i + 1).toNat)
  have hL1 : LIR (oPc pCol (xs (i + 1).toNat).toInt S P nx) (n + 1) := by
    have h9 := hI.up
    unfold LIR oPc
    (repeat' split) <;> exact h9
  have ens : nsS (oPc pCol (xs (i + 1).toNat).toInt S P nx).2.2.1 = nsS S := by
    unfold oPc
    (repeat' split) <;> rfl
  have ent : ntS (oPc pCol (xs (i + 1).toNat).toInt S P nx).2.2.1 = ntS S := by
    unfold oPc
    (repeat' split) <;> rfl
  have ecd : (oPc pCol (xs (i + 1).toNat).toInt S P nx).1 ≤ 9 := by
    unfold oPc
    (repeat' split) <;> exact Nat.le_of_ble_eq_true rfl
  refine w_aload_n C dL_law_1252 rfl ?_
  refine w_arg C hX hbl hbA had hL hi (by omega) dL_law_1253 dL_law_1254 dL_law_1256 dL_law_1257 dL_law_1258 rfl rfl ?_
  refine w_aload_n C dL_law_1259 rfl ?_
  refine w_subS sdR C (as := [aO 0 0, aI (xs (i + 1).toNat).toInt, aO 80 0]) dL_law_1260 (apR _ _) (cnS_R _ _) (fun b1 => h_columnOf hl (c_X6_columnOf hl hI.1 hnx hR _ x1)) mhL_columnOf sL_columnOf lk_L_196 rfl rfl ⟨by omega, by omega, by omega, by omega⟩ (Nat.le_of_ble_eq_true rfl) (fun r M1 hp => ?_)
  obtain ⟨rfl, hR1, hM1, ho1⟩ := side_a hM hp hL1.1.2.2.1
  refine w_istore C dL_law_1263 (by decide) ?_
  refine w_aload_n C dL_law_1265 rfl ?_
  refine w_arg C hX hbl hbA had hL hi (by omega) dL_law_1266 dL_law_1267 dL_law_1269 dL_law_1270 dL_law_1271 rfl rfl ?_
  refine w_subV sdM C (as := [aI (xs (i + 1).toNat).toInt]) dL_law_1272 (apM _ _) (cnS_M _ _) (fun b1 => c_X7_columnOf hl hI.1 hnx hM1 _ x1) mX7_columnOf vX7_columnOf lk_L_198 Nat.zero_lt_one rfl rfl rfl rfl ⟨by omega, by omega, by omega, by omega⟩ (Nat.le_of_ble_eq_true rfl) (fun r M2 hp2 => ?_)
  obtain ⟨⟨v, rfl, hv⟩, hM2, hR2, hth, hout⟩ := side_b hR1 hL1.1.2.2.1 hp2
  refine w_istore C dL_law_1275 (by decide) ?_
  refine w_tail hl C rfl dL_law_1277 dL_law_1278 dL_law_1281 dL_law_1283 dL_law_1288 dL_law_1290 dL_law_1293 dL_law_1294 dL_law_1295 dL_law_1296 dL_law_1298 dL_law_1299 dL_law_1300 ⟨by omega, by omega, by omega, by omega⟩ rfl rfl rfl rfl ecd hth (fun h => by rw [hout, ho1 h, hv h]) ?_
  refine w_goto C dL_law_1305 ?_
  refine Wm.lsub (lv' := lvL i) ⟨rfl, rfl, rfl, rfl, rfl, rfl, trivial⟩ ?_
  rw [← ens, ← ent]
  exact kk _ _ _ _ _ _ _ (by omega) (by omega) hL1 hR2 hM2 had
theorem k_turnsOfW (hl : l.stackTraces = false) (C : Cx l p s m args meth c cL_law RL 9 D cA b0 tab) {b L : Nat} {xs : Nat → Int32} (hX : va_X b L xs s s.heap) (hbl : b < s.heap.size) (hbA : ¬ b0 b) (had : ad 99 0 = b) (hL : L ≤ 2147483647) {S : Sg} {P : List Pc} {nx n : Nat} {i : Int} (hI : LI S P nx n) (hn : n < 600) (hR : RepRoom S P nx M) (hM : RepMo S P nx M) (hi : 0 ≤ i ∧ i + 5 < L) (hroom : 40 ≤ R.frames ∧ 4000 ≤ R.locals ∧ cells + 1000 ≤ R.cells ∧ slots + 12000 ≤ R.slots)
    (kk : KL p l e R s m args below meth c D cA b0 cells slots Q b i n) : Wm p l e R s m args below meth c 9 D cA b0 cells slots Q 1308 (lvL i) [] ad (cnB (nsS S) (ntS S)) M := by
  have i40 : inD (cnB (nsS S) (ntS S)) 40 0 := Nat.zero_lt_one
  have i0 : inD (cnB (nsS S) (ntS S)) 0 0 := Nat.zero_lt_one
  have hnx : nx < 1000000 := by have := hI.2.2.2.1; omega
  have hmd : ∀ y, mdS S y < 1000000 := fun y => by have := hI.2.2.2.2 y; omega
  have x1 := rg32 (xs (i + 1).toNat)
  have hL1 : LIR (oPc pTrn (xs (i + 1).toNat).toInt S P nx) (n + 1) := by
    have h9 := hI.up
    unfold LIR oPc
    (repeat' split) <;> exact h9
  have ens : nsS (oPc pTrn (xs (i + 1).toNat).toInt S P nx).2.2.1 = nsS S := by
    unfold oPc
    (repeat' split) <;> rfl
  have ent : ntS (oPc pTrn (xs (i + 1).toNat).toInt S P nx).2.2.1 = ntS S := by
    unfold oPc
    (repeat' split) <;> rfl
  have ecd : (oPc pTrn (xs (i + 1).toNat).toInt S P nx).1 ≤ 9 := by
    unfold oPc
    (repeat' split) <;> exact Nat.le_of_ble_eq_true rfl
  refine w_aload_n C dL_law_1308 rfl ?_
  refine w_arg C hX hbl hbA had hL hi (by omega) dL_law_1309 dL_law_1310 dL_law_1312 dL_law_1313 dL_law_1314 rfl rfl ?_
  refine w_aload_n C dL_law_1315 rfl ?_
  refine w_subS sdR C (as := [aO 0 0, aI (xs (i + 1).toNat).toInt, aO 80 0]) dL_law_1316 (apR _ _) (cnS_R _ _) (fun b1 => h_turnsOf hl (c_X6_turnsOf hl hI.1 hnx hR _ x1)) mhL_turnsOf sL_turnsOf lk_L_199 rfl rfl ⟨by omega, by omega, by omega, by omega⟩ (Nat.le_of_ble_eq_true rfl) (fun r M1 hp => ?_)
  obtain ⟨rfl, hR1, hM1, ho1⟩ := side_a hM hp hL1.1.2.2.1
  refine w_istore C dL_law_1319 (by decide) ?_
  refine w_aload_n C dL_law_1321 rfl ?_
  refine w_arg C hX hbl hbA had hL hi (by omega) dL_law_1322 dL_law_1323 dL_law_1325 dL_law_1326 dL_law_1327 rfl rfl ?_
  refine w_subV sdM C (as := [aI (xs (i + 1).toNat).toInt]) dL_law_1328 (apM _ _) (cnS_M _ _) (fun b1 => c_X7_turnsOf hl hI.1 hnx hM1 _ x1) mX7_turnsOf vX7_turnsOf lk_L_201 Nat.zero_lt_one rfl rfl rfl rfl ⟨by omega, by omega, by omega, by omega⟩ (Nat.le_of_ble_eq_true rfl) (fun r M2 hp2 => ?_)
  obtain ⟨⟨v, rfl, hv⟩, hM2, hR2, hth, hout⟩ := side_b hR1 hL1.1.2.2.1 hp2
  refine w_istore C dL_law_1331 (by decide) ?_
  refine w_tail hl C rfl dL_law_1333 dL_law_1334 dL_law_1337 dL_law_1339 dL_law_1344 dL_law_1346 dL_law_1349 dL_law_1350 dL_law_1351 dL_law_1352 dL_law_1354 dL_law_1355 dL_law_1356 ⟨by omega, by omega, by omega, by omega⟩ rfl rfl rfl rfl ecd hth (fun h => by rw [hout, ho1 h, hv h]) ?_
  refine w_goto C dL_law_1361 ?_
  refine Wm.lsub (lv' := lvL i) ⟨rfl, rfl, rfl, rfl, rfl, rfl, trivial⟩ ?_
  rw [← ens, ← ent]
  exact kk _ _ _ _ _ _ _ (by omega) (by omega) hL1 hR2 hM2 had
end Cs
