/-! the cases of the law (rowOf, columnOf, turnsOf) -/
section Cs
variable {p : Program} {l : Launch} {e : Env} {R : Room} {s : State} {m : MethodId} {args : Array Value} {below : List Frame} {meth : Method} {c : Code} {D : va_G} {cA : Nat → ClassId} {b0 : Nat → Prop} {cells slots : Nat} {Q : State → Prop} {ad : Ads} {M : Mem} {tab : List ExceptionTableEntry}
theorem k_rowOf (hl : l.stackTraces = false) (C : Cx l p s m args meth c cL_law RL 9 D cA b0 tab) {b L : Nat} {xs : Nat → Int32} (hX : va_X b L xs s s.heap) (hbl : b < s.heap.size) (hbA : ¬ b0 b) (had : ad 99 0 = b) (hL : L ≤ 2147483647) {S : Sg} {P : List Pc} {nx n : Nat} {i : Int} (hI : LI S P nx n) (hR : RepRoom S P nx M) (hM : RepMo S P nx M) (hn6 : n ≤ 600) (hi : 0 ≤ i ∧ i + 5 < L) (hroom : 40 ≤ R.frames ∧ 4000 ≤ R.locals ∧ cells + 2 ≤ R.cells ∧ slots + 12 ≤ R.slots)
    (kk : ∀ (c2 s2 : Nat) (M' : Mem), c2 ≤ cells + 2 → s2 ≤ slots + 12 → RepRoom S P nx M' → RepMo S P nx M' → Wm p l e R s m args below meth c 9 D cA b0 c2 s2 Q 2545 (lvL i) [] ad (cnB (nsS S) (ntS S)) M') : Wm p l e R s m args below meth c 9 D cA b0 cells slots Q 1196 (lvL i) [] ad (cnB (nsS S) (ntS S)) M := by
  have i40 : inD (cnB (nsS S) (ntS S)) 40 0 := Nat.zero_lt_one
  have hP := hI.1.2.2.1
  have x1 := rg32 (xs (i + 1).toNat)
  have eo : (oPc pRow (xs (i + 1).toNat).toInt S P nx).2.2 = (S, P, nx) := by
    unfold oPc
    split <;> rfl
  have eo1 : (oPc pRow (xs (i + 1).toNat).toInt S P nx).1 ≤ 9 := by
    unfold oPc
    split <;> exact Nat.le_of_ble_eq_true rfl
  refine w_aload_n C dL_law_1196 rfl ?_
  refine w_aload_n C dL_law_1197 rfl ?_
  refine w_iload C dL_law_1198 rfl ?_
  refine w_iconst C dL_law_1200 ?_
  refine w_iadd C dL_law_1201 ?_
  refine w_sld C hX hbl hbA had dL_law_1202 (by omega) hL ?_
  refine w_aload_n C dL_law_1203 rfl ?_
  refine w_subS sdR C (as := [aO 0 0, aI (xs (i + 1).toNat).toInt, aO 80 0]) dL_law_1204 (apR _ _) (cnS_R _ _) (fun b1 => h_rowOf hl (c_X6_rowOf hl hI.1 (by have := hI.2.2.2.1; omega) hR _ x1)) mhL_rowOf sL_rowOf lk_L_193 rfl rfl ⟨by omega, by omega, by omega, by omega⟩ (Nat.le_of_ble_eq_true rfl) (fun r M1 hp => ?_)
  obtain ⟨rfl, hR1, hM1, ho1⟩ := side_a hM hp (by rw [eo]; exact hP)
  rw [eo] at hR1
  refine w_istore C dL_law_1207 (by decide) ?_
  refine w_aload_n C dL_law_1209 rfl ?_
  refine w_aload_n C dL_law_1210 rfl ?_
  refine w_iload C dL_law_1211 rfl ?_
  refine w_iconst C dL_law_1213 ?_
  refine w_iadd C dL_law_1214 ?_
  refine w_sld C hX hbl hbA had dL_law_1215 (by omega) hL ?_
  refine w_subV sdM C (as := [aI (xs (i + 1).toNat).toInt]) dL_law_1216 (apM _ _) (cnS_M _ _) (fun b1 => c_X7_rowOf hl hI.1 (by have := hI.2.2.2.1; omega) hM1 _ x1) mX7_rowOf vX7_rowOf lk_L_195 i40 rfl rfl rfl rfl ⟨by omega, by omega, by omega, by omega⟩ (Nat.le_of_ble_eq_true rfl) (fun r M2 hp2 => ?_)
  obtain ⟨⟨v, rfl, hv⟩, hM2, hR2, hth, hout⟩ := side_b hR1 hP hp2
  rw [eo] at hM2
  refine w_istore C dL_law_1219 (by decide) ?_
  refine w_tail hl C rfl dL_law_1221 dL_law_1222 dL_law_1225 dL_law_1227 dL_law_1232 dL_law_1234 dL_law_1237 dL_law_1238 dL_law_1239 dL_law_1240 dL_law_1242 dL_law_1243 dL_law_1244 ⟨by omega, by omega, by omega, by omega⟩ rfl rfl rfl rfl eo1 hth (fun h => by rw [hout, ho1 h, hv h]) ?_
  refine w_goto C dL_law_1249 ?_
  exact Wm.lsub (lv' := lvL i) ⟨rfl, rfl, rfl, rfl, rfl, rfl, trivial⟩ (kk _ _ _ (by omega) (by omega) hR2 hM2)
theorem k_columnOf (hl : l.stackTraces = false) (C : Cx l p s m args meth c cL_law RL 9 D cA b0 tab) {b L : Nat} {xs : Nat → Int32} (hX : va_X b L xs s s.heap) (hbl : b < s.heap.size) (hbA : ¬ b0 b) (had : ad 99 0 = b) (hL : L ≤ 2147483647) {S : Sg} {P : List Pc} {nx n : Nat} {i : Int} (hI : LI S P nx n) (hR : RepRoom S P nx M) (hM : RepMo S P nx M) (hn6 : n ≤ 600) (hi : 0 ≤ i ∧ i + 5 < L) (hroom : 40 ≤ R.frames ∧ 4000 ≤ R.locals ∧ cells + 2 ≤ R.cells ∧ slots + 12 ≤ R.slots)
    (kk : ∀ (c2 s2 : Nat) (M' : Mem), c2 ≤ cells + 2 → s2 ≤ slots + 12 → RepRoom S P nx M' → RepMo S P nx M' → Wm p l e R s m args below meth c 9 D cA b0 c2 s2 Q 2545 (lvL i) [] ad (cnB (nsS S) (ntS S)) M') : Wm p l e R s m args below meth c 9 D cA b0 cells slots Q 1252 (lvL i) [] ad (cnB (nsS S) (ntS S)) M := by
  have i40 : inD (cnB (nsS S) (ntS S)) 40 0 := Nat.zero_lt_one
  have hP := hI.1.2.2.1
  have x1 := rg32 (xs (i + 1).toNat)
  have eo : (oPc pCol (xs (i + 1).toNat).toInt S P nx).2.2 = (S, P, nx) := by
    unfold oPc
    split <;> rfl
  have eo1 : (oPc pCol (xs (i + 1).toNat).toInt S P nx).1 ≤ 9 := by
    unfold oPc
    split <;> exact Nat.le_of_ble_eq_true rfl
  refine w_aload_n C dL_law_1252 rfl ?_
  refine w_aload_n C dL_law_1253 rfl ?_
  refine w_iload C dL_law_1254 rfl ?_
  refine w_iconst C dL_law_1256 ?_
  refine w_iadd C dL_law_1257 ?_
  refine w_sld C hX hbl hbA had dL_law_1258 (by omega) hL ?_
  refine w_aload_n C dL_law_1259 rfl ?_
  refine w_subS sdR C (as := [aO 0 0, aI (xs (i + 1).toNat).toInt, aO 80 0]) dL_law_1260 (apR _ _) (cnS_R _ _) (fun b1 => h_columnOf hl (c_X6_columnOf hl hI.1 (by have := hI.2.2.2.1; omega) hR _ x1)) mhL_columnOf sL_columnOf lk_L_196 rfl rfl ⟨by omega, by omega, by omega, by omega⟩ (Nat.le_of_ble_eq_true rfl) (fun r M1 hp => ?_)
  obtain ⟨rfl, hR1, hM1, ho1⟩ := side_a hM hp (by rw [eo]; exact hP)
  rw [eo] at hR1
  refine w_istore C dL_law_1263 (by decide) ?_
  refine w_aload_n C dL_law_1265 rfl ?_
  refine w_aload_n C dL_law_1266 rfl ?_
  refine w_iload C dL_law_1267 rfl ?_
  refine w_iconst C dL_law_1269 ?_
  refine w_iadd C dL_law_1270 ?_
  refine w_sld C hX hbl hbA had dL_law_1271 (by omega) hL ?_
  refine w_subV sdM C (as := [aI (xs (i + 1).toNat).toInt]) dL_law_1272 (apM _ _) (cnS_M _ _) (fun b1 => c_X7_columnOf hl hI.1 (by have := hI.2.2.2.1; omega) hM1 _ x1) mX7_columnOf vX7_columnOf lk_L_198 i40 rfl rfl rfl rfl ⟨by omega, by omega, by omega, by omega⟩ (Nat.le_of_ble_eq_true rfl) (fun r M2 hp2 => ?_)
  obtain ⟨⟨v, rfl, hv⟩, hM2, hR2, hth, hout⟩ := side_b hR1 hP hp2
  rw [eo] at hM2
  refine w_istore C dL_law_1275 (by decide) ?_
  refine w_tail hl C rfl dL_law_1277 dL_law_1278 dL_law_1281 dL_law_1283 dL_law_1288 dL_law_1290 dL_law_1293 dL_law_1294 dL_law_1295 dL_law_1296 dL_law_1298 dL_law_1299 dL_law_1300 ⟨by omega, by omega, by omega, by omega⟩ rfl rfl rfl rfl eo1 hth (fun h => by rw [hout, ho1 h, hv h]) ?_
  refine w_goto C dL_law_1305 ?_
  exact Wm.lsub (lv' := lvL i) ⟨rfl, rfl, rfl, rfl, rfl, rfl, trivial⟩ (kk _ _ _ (by omega) (by omega) hR2 hM2)
theorem k_turnsOf (hl : l.stackTraces = false) (C : Cx l p s m args meth c cL_law RL 9 D cA b0 tab) {b L : Nat} {xs : Nat → Int32} (hX : va_X b L xs s s.heap) (hbl : b < s.heap.size) (hbA : ¬ b0 b) (had : ad 99 0 = b) (hL : L ≤ 2147483647) {S : Sg} {P : List Pc} {nx n : Nat} {i : Int} (hI : LI S P nx n) (hR : RepRoom S P nx M) (hM : RepMo S P nx M) (hn6 : n ≤ 600) (hi : 0 ≤ i ∧ i + 5 < L) (hroom : 40 ≤ R.frames ∧ 4000 ≤ R.locals ∧ cells + 2 ≤ R.cells ∧ slots + 12 ≤ R.slots)
    (kk : ∀ (c2 s2 : Nat) (M' : Mem), c2 ≤ cells + 2 → s2 ≤ slots + 12 → RepRoom S P nx M' → RepMo S P nx M' → Wm p l e R s m args below meth c 9 D cA b0 c2 s2 Q 2545 (lvL i) [] ad (cnB (nsS S) (ntS S)) M') : Wm p l e R s m args below meth c 9 D cA b0 cells slots Q 1308 (lvL i) [] ad (cnB (nsS S) (ntS S)) M := by
  have i40 : inD (cnB (nsS S) (ntS S)) 40 0 := Nat.zero_lt_one
  have hP := hI.1.2.2.1
  have x1 := rg32 (xs (i + 1).toNat)
  have eo : (oPc pTrn (xs (i + 1).toNat).toInt S P nx).2.2 = (S, P, nx) := by
    unfold oPc
    split <;> rfl
  have eo1 : (oPc pTrn (xs (i + 1).toNat).toInt S P nx).1 ≤ 9 := by
    unfold oPc
    split <;> exact Nat.le_of_ble_eq_true rfl
  refine w_aload_n C dL_law_1308 rfl ?_
  refine w_aload_n C dL_law_1309 rfl ?_
  refine w_iload C dL_law_1310 rfl ?_
  refine w_iconst C dL_law_1312 ?_
  refine w_iadd C dL_law_1313 ?_
  refine w_sld C hX hbl hbA had dL_law_1314 (by omega) hL ?_
  refine w_aload_n C dL_law_1315 rfl ?_
  refine w_subS sdR C (as := [aO 0 0, aI (xs (i + 1).toNat).toInt, aO 80 0]) dL_law_1316 (apR _ _) (cnS_R _ _) (fun b1 => h_turnsOf hl (c_X6_turnsOf hl hI.1 (by have := hI.2.2.2.1; omega) hR _ x1)) mhL_turnsOf sL_turnsOf lk_L_199 rfl rfl ⟨by omega, by omega, by omega, by omega⟩ (Nat.le_of_ble_eq_true rfl) (fun r M1 hp => ?_)
  obtain ⟨rfl, hR1, hM1, ho1⟩ := side_a hM hp (by rw [eo]; exact hP)
  rw [eo] at hR1
  refine w_istore C dL_law_1319 (by decide) ?_
  refine w_aload_n C dL_law_1321 rfl ?_
  refine w_aload_n C dL_law_1322 rfl ?_
  refine w_iload C dL_law_1323 rfl ?_
  refine w_iconst C dL_law_1325 ?_
  refine w_iadd C dL_law_1326 ?_
  refine w_sld C hX hbl hbA had dL_law_1327 (by omega) hL ?_
  refine w_subV sdM C (as := [aI (xs (i + 1).toNat).toInt]) dL_law_1328 (apM _ _) (cnS_M _ _) (fun b1 => c_X7_turnsOf hl hI.1 (by have := hI.2.2.2.1; omega) hM1 _ x1) mX7_turnsOf vX7_turnsOf lk_L_201 i40 rfl rfl rfl rfl ⟨by omega, by omega, by omega, by omega⟩ (Nat.le_of_ble_eq_true rfl) (fun r M2 hp2 => ?_)
  obtain ⟨⟨v, rfl, hv⟩, hM2, hR2, hth, hout⟩ := side_b hR1 hP hp2
  rw [eo] at hM2
  refine w_istore C dL_law_1331 (by decide) ?_
  refine w_tail hl C rfl dL_law_1333 dL_law_1334 dL_law_1337 dL_law_1339 dL_law_1344 dL_law_1346 dL_law_1349 dL_law_1350 dL_law_1351 dL_law_1352 dL_law_1354 dL_law_1355 dL_law_1356 ⟨by omega, by omega, by omega, by omega⟩ rfl rfl rfl rfl eo1 hth (fun h => by rw [hout, ho1 h, hv h]) ?_
  refine w_goto C dL_law_1361 ?_
  exact Wm.lsub (lv' := lvL i) ⟨rfl, rfl, rfl, rfl, rfl, rfl, trivial⟩ (kk _ _ _ (by omega) (by omega) hR2 hM2)
end Cs
