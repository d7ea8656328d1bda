/-! the cases of the law: pieceAt, pieceByPieces, length, used, phase -/
section Cs
variable {p : Program} {l : Launch} {e : Env} {R : Room} {s : State} {m : MethodId} {args : Array Value} {below : List Frame} {meth : Method} {c : Code} {D : va_G} {cA : Nat → ClassId} {b0 : Nat → Prop} {cells slots : Nat} {Q : State → Prop} {ad : Ads} {M : Mem} {tab : List ExceptionTableEntry}
theorem k_pieceAtW (hl : l.stackTraces = false) (C : Cx l p s m args meth c cL_law RL 9 D cA b0 tab) {b L : Nat} {xs : Nat → Int32} (hX : va_X b L xs s s.heap) (hbl : b < s.heap.size) (hbA : ¬ b0 b) (had : ad 99 0 = b) (hL : L ≤ 2147483647) {S : Sg} {P : List Pc} {nx n : Nat} {i : Int} (hI : LI S P nx n) (hn : n < 600) (hR : RepRoom S P nx M) (hM : RepMo S P nx M) (hi : 0 ≤ i ∧ i + 5 < L) (hroom : 40 ≤ R.frames ∧ 4000 ≤ R.locals ∧ cells + 1000 ≤ R.cells ∧ slots + 12000 ≤ R.slots)
    (kk : KL p l e R s m args below meth c D cA b0 cells slots Q b i n) : Wm p l e R s m args below meth c 9 D cA b0 cells slots Q 1364 (lvL i) [] ad (cnB (nsS S) (ntS S)) M := by
  have i40 : inD (cnB (nsS S) (ntS S)) 40 0 := Nat.zero_lt_one
  have i0 : inD (cnB (nsS S) (ntS S)) 0 0 := Nat.zero_lt_one
  have hnx : nx < 1000000 := by have := hI.2.2.2.1; omega
  have hmd : ∀ y, mdS S y < 1000000 := fun y => by have := hI.2.2.2.2 y; omega
  have x1 := rg32 (xs (i + 1).toNat)
  have x2 := rg32 (xs (i + 2).toNat)
  have hL1 : LIR (oPieceAt (xs (i + 1).toNat).toInt (xs (i + 2).toNat).toInt S P nx) (n + 1) := by
    have h9 := hI.up
    unfold LIR oPieceAt
    (repeat' split) <;> exact h9
  have ens : nsS (oPieceAt (xs (i + 1).toNat).toInt (xs (i + 2).toNat).toInt S P nx).2.2.1 = nsS S := by
    unfold oPieceAt
    (repeat' split) <;> rfl
  have ent : ntS (oPieceAt (xs (i + 1).toNat).toInt (xs (i + 2).toNat).toInt S P nx).2.2.1 = ntS S := by
    unfold oPieceAt
    (repeat' split) <;> rfl
  have ecd : (oPieceAt (xs (i + 1).toNat).toInt (xs (i + 2).toNat).toInt S P nx).1 ≤ 9 := by
    unfold oPieceAt
    (repeat' split) <;> exact Nat.le_of_ble_eq_true rfl
  refine w_aload_n C dL_law_1364 rfl ?_
  refine w_arg C hX hbl hbA had hL hi (by omega) dL_law_1365 dL_law_1366 dL_law_1368 dL_law_1369 dL_law_1370 rfl rfl ?_
  refine w_arg C hX hbl hbA had hL hi (by omega) dL_law_1371 dL_law_1372 dL_law_1374 dL_law_1375 dL_law_1376 rfl rfl ?_
  refine w_aload_n C dL_law_1377 rfl ?_
  refine w_subS sdR C (as := [aO 0 0, aI (xs (i + 1).toNat).toInt, aI (xs (i + 2).toNat).toInt, aO 80 0]) dL_law_1378 (apR _ _) (cnS_R _ _) (fun b1 => h_pieceAt hl (c_X6_pieceAt hl hI.1 hnx hR _ _ x1 x2)) mhL_pieceAt sL_pieceAt lk_L_202 rfl rfl ⟨by omega, by omega, by omega, by omega⟩ (Nat.le_of_ble_eq_true rfl) (fun r M1 hp => ?_)
  obtain ⟨rfl, hR1, hM1, ho1⟩ := side_a hM hp hL1.1.2.2.1
  refine w_istore C dL_law_1381 (by decide) ?_
  refine w_aload_n C dL_law_1383 rfl ?_
  refine w_arg C hX hbl hbA had hL hi (by omega) dL_law_1384 dL_law_1385 dL_law_1387 dL_law_1388 dL_law_1389 rfl rfl ?_
  refine w_arg C hX hbl hbA had hL hi (by omega) dL_law_1390 dL_law_1391 dL_law_1393 dL_law_1394 dL_law_1395 rfl rfl ?_
  refine w_subV sdM C (as := [aI (xs (i + 1).toNat).toInt, aI (xs (i + 2).toNat).toInt]) dL_law_1396 (apM _ _) (cnS_M _ _) (fun b1 => c_X7_pieceAt hl hI.1 hnx hM1 _ _ x1 x2) mX7_pieceAt vX7_pieceAt lk_L_204 Nat.zero_lt_one rfl rfl rfl rfl ⟨by omega, by omega, by omega, by omega⟩ (Nat.le_of_ble_eq_true rfl) (fun r M2 hp2 => ?_)
  obtain ⟨⟨v, rfl, hv⟩, hM2, hR2, hth, hout⟩ := side_b hR1 hL1.1.2.2.1 hp2
  refine w_istore C dL_law_1399 (by decide) ?_
  refine w_tail hl C rfl dL_law_1401 dL_law_1402 dL_law_1405 dL_law_1407 dL_law_1412 dL_law_1414 dL_law_1417 dL_law_1418 dL_law_1419 dL_law_1420 dL_law_1422 dL_law_1423 dL_law_1424 ⟨by omega, by omega, by omega, by omega⟩ rfl rfl rfl rfl ecd hth (fun h => by rw [hout, ho1 h, hv h]) ?_
  refine w_goto C dL_law_1429 ?_
  refine Wm.lsub (lv' := lvL i) ⟨rfl, rfl, rfl, rfl, rfl, rfl, trivial⟩ ?_
  rw [← ens, ← ent]
  exact kk _ _ _ _ _ _ _ (by omega) (by omega) hL1 hR2 hM2 had
theorem k_pieceByPiecesW (hl : l.stackTraces = false) (C : Cx l p s m args meth c cL_law RL 9 D cA b0 tab) {b L : Nat} {xs : Nat → Int32} (hX : va_X b L xs s s.heap) (hbl : b < s.heap.size) (hbA : ¬ b0 b) (had : ad 99 0 = b) (hL : L ≤ 2147483647) {S : Sg} {P : List Pc} {nx n : Nat} {i : Int} (hI : LI S P nx n) (hn : n < 600) (hR : RepRoom S P nx M) (hM : RepMo S P nx M) (hi : 0 ≤ i ∧ i + 5 < L) (hroom : 40 ≤ R.frames ∧ 4000 ≤ R.locals ∧ cells + 1000 ≤ R.cells ∧ slots + 12000 ≤ R.slots)
    (kk : KL p l e R s m args below meth c D cA b0 cells slots Q b i n) : Wm p l e R s m args below meth c 9 D cA b0 cells slots Q 1432 (lvL i) [] ad (cnB (nsS S) (ntS S)) M := by
  have i40 : inD (cnB (nsS S) (ntS S)) 40 0 := Nat.zero_lt_one
  have i0 : inD (cnB (nsS S) (ntS S)) 0 0 := Nat.zero_lt_one
  have hnx : nx < 1000000 := by have := hI.2.2.2.1; omega
  have hmd : ∀ y, mdS S y < 1000000 := fun y => by have := hI.2.2.2.2 y; omega
  have x1 := rg32 (xs (i + 1).toNat)
  have x2 := rg32 (xs (i + 2).toNat)
  have hL1 : LIR (oPieceAt (xs (i + 1).toNat).toInt (xs (i + 2).toNat).toInt S P nx) (n + 1) := by
    have h9 := hI.up
    unfold LIR oPieceAt
    (repeat' split) <;> exact h9
  have ens : nsS (oPieceAt (xs (i + 1).toNat).toInt (xs (i + 2).toNat).toInt S P nx).2.2.1 = nsS S := by
    unfold oPieceAt
    (repeat' split) <;> rfl
  have ent : ntS (oPieceAt (xs (i + 1).toNat).toInt (xs (i + 2).toNat).toInt S P nx).2.2.1 = ntS S := by
    unfold oPieceAt
    (repeat' split) <;> rfl
  have ecd : (oPieceAt (xs (i + 1).toNat).toInt (xs (i + 2).toNat).toInt S P nx).1 ≤ 9 := by
    unfold oPieceAt
    (repeat' split) <;> exact Nat.le_of_ble_eq_true rfl
  refine w_aload_n C dL_law_1432 rfl ?_
  refine w_arg C hX hbl hbA had hL hi (by omega) dL_law_1433 dL_law_1434 dL_law_1436 dL_law_1437 dL_law_1438 rfl rfl ?_
  refine w_arg C hX hbl hbA had hL hi (by omega) dL_law_1439 dL_law_1440 dL_law_1442 dL_law_1443 dL_law_1444 rfl rfl ?_
  refine w_aload_n C dL_law_1445 rfl ?_
  refine w_subS sdR C (as := [aO 0 0, aI (xs (i + 1).toNat).toInt, aI (xs (i + 2).toNat).toInt, aO 80 0]) dL_law_1446 (apR _ _) (cnS_R _ _) (fun b1 => h_pieceByPieces hl (c_X6_pieceByPieces hl hI.1 hnx (Nat.le_refl _) hR _ _ x1 x2)) mhL_pieceByPieces sL_pieceByPieces lk_L_205 rfl rfl ⟨by omega, by omega, by omega, by omega⟩ (Nat.le_of_ble_eq_true rfl) (fun r M1 hp => ?_)
  obtain ⟨rfl, hR1, hM1, ho1⟩ := side_a hM hp hL1.1.2.2.1
  refine w_istore C dL_law_1449 (by decide) ?_
  refine w_aload_n C dL_law_1451 rfl ?_
  refine w_arg C hX hbl hbA had hL hi (by omega) dL_law_1452 dL_law_1453 dL_law_1455 dL_law_1456 dL_law_1457 rfl rfl ?_
  refine w_arg C hX hbl hbA had hL hi (by omega) dL_law_1458 dL_law_1459 dL_law_1461 dL_law_1462 dL_law_1463 rfl rfl ?_
  refine w_subV sdM C (as := [aI (xs (i + 1).toNat).toInt, aI (xs (i + 2).toNat).toInt]) dL_law_1464 (apM _ _) (cnS_M _ _) (fun b1 => c_X7_pieceByPieces hl hI.1 hnx hM1 _ _ x1 x2) mX7_pieceByPieces vX7_pieceByPieces lk_L_207 Nat.zero_lt_one rfl rfl rfl rfl ⟨by omega, by omega, by omega, by omega⟩ (Nat.le_of_ble_eq_true rfl) (fun r M2 hp2 => ?_)
  obtain ⟨⟨v, rfl, hv⟩, hM2, hR2, hth, hout⟩ := side_b hR1 hL1.1.2.2.1 hp2
  refine w_istore C dL_law_1467 (by decide) ?_
  refine w_tail hl C rfl dL_law_1469 dL_law_1470 dL_law_1473 dL_law_1475 dL_law_1480 dL_law_1482 dL_law_1485 dL_law_1486 dL_law_1487 dL_law_1488 dL_law_1490 dL_law_1491 dL_law_1492 ⟨by omega, by omega, by omega, by omega⟩ rfl rfl rfl rfl ecd hth (fun h => by rw [hout, ho1 h, hv h]) ?_
  refine w_goto C dL_law_1497 ?_
  refine Wm.lsub (lv' := lvL i) ⟨rfl, rfl, rfl, rfl, rfl, rfl, trivial⟩ ?_
  rw [← ens, ← ent]
  exact kk _ _ _ _ _ _ _ (by omega) (by omega) hL1 hR2 hM2 had
theorem k_lengthW (hl : l.stackTraces = false) (C : Cx l p s m args meth c cL_law RL 9 D cA b0 tab) {b L : Nat} {xs : Nat → Int32} (hX : va_X b L xs s s.heap) (hbl : b < s.heap.size) (hbA : ¬ b0 b) (had : ad 99 0 = b) (hL : L ≤ 2147483647) {S : Sg} {P : List Pc} {nx n : Nat} {i : Int} (hI : LI S P nx n) (hn : n < 600) (hR : RepRoom S P nx M) (hM : RepMo S P nx M) (hi : 0 ≤ i ∧ i + 5 < L) (hroom : 40 ≤ R.frames ∧ 4000 ≤ R.locals ∧ cells + 1000 ≤ R.cells ∧ slots + 12000 ≤ R.slots)
    (kk : KL p l e R s m args below meth c D cA b0 cells slots Q b i n) : Wm p l e R s m args below meth c 9 D cA b0 cells slots Q 1500 (lvL i) [] ad (cnB (nsS S) (ntS S)) M := by
  have i40 : inD (cnB (nsS S) (ntS S)) 40 0 := Nat.zero_lt_one
  have i0 : inD (cnB (nsS S) (ntS S)) 0 0 := Nat.zero_lt_one
  have hnx : nx < 1000000 := by have := hI.2.2.2.1; omega
  have hmd : ∀ y, mdS S y < 1000000 := fun y => by have := hI.2.2.2.2 y; omega
  have hL1 : LIR (oLength S P nx) (n + 1) := hI.up
  have ens : nsS (oLength S P nx).2.2.1 = nsS S := rfl
  have ent : ntS (oLength S P nx).2.2.1 = ntS S := rfl
  refine w_aload_n C dL_law_1500 rfl ?_
  refine w_subV sdR C (as := []) dL_law_1501 (apR _ _) (cnS_R _ _) (fun b1 => c_X6_length hl hR) mX6_length vX6_length lk_L_208 i0 rfl rfl rfl rfl ⟨by omega, by omega, by omega, by omega⟩ (Nat.le_of_ble_eq_true rfl) (fun r M1 hp => ?_)
  obtain ⟨rfl, hR1, hM1⟩ := side_c hM hp hL1.1.2.2.1
  refine w_aload_n C dL_law_1504 rfl ?_
  refine w_subV sdM C (as := []) dL_law_1505 (apM _ _) (cnS_M _ _) (fun b1 => c_X7_length hl hI.1 hnx hM1) mX7_length vX7_length lk_L_211 i40 rfl rfl rfl rfl ⟨by omega, by omega, by omega, by omega⟩ (Nat.le_of_ble_eq_true rfl) (fun r M2 hp2 => ?_)
  obtain ⟨⟨v, rfl, hv⟩, hM2, hR2, -, -⟩ := side_b hR1 hL1.1.2.2.1 hp2
  refine w_icmpES C dL_law_1508 (hv rfl) ?_
  rw [← ens, ← ent]
  exact kk _ _ _ _ _ _ _ (by omega) (by omega) hL1 hR2 hM2 had
theorem k_usedW (hl : l.stackTraces = false) (C : Cx l p s m args meth c cL_law RL 9 D cA b0 tab) {b L : Nat} {xs : Nat → Int32} (hX : va_X b L xs s s.heap) (hbl : b < s.heap.size) (hbA : ¬ b0 b) (had : ad 99 0 = b) (hL : L ≤ 2147483647) {S : Sg} {P : List Pc} {nx n : Nat} {i : Int} (hI : LI S P nx n) (hn : n < 600) (hR : RepRoom S P nx M) (hM : RepMo S P nx M) (hi : 0 ≤ i ∧ i + 5 < L) (hroom : 40 ≤ R.frames ∧ 4000 ≤ R.locals ∧ cells + 1000 ≤ R.cells ∧ slots + 12000 ≤ R.slots)
    (kk : KL p l e R s m args below meth c D cA b0 cells slots Q b i n) : Wm p l e R s m args below meth c 9 D cA b0 cells slots Q 1513 (lvL i) [] ad (cnB (nsS S) (ntS S)) M := by
  have i40 : inD (cnB (nsS S) (ntS S)) 40 0 := Nat.zero_lt_one
  have i0 : inD (cnB (nsS S) (ntS S)) 0 0 := Nat.zero_lt_one
  have hnx : nx < 1000000 := by have := hI.2.2.2.1; omega
  have hmd : ∀ y, mdS S y < 1000000 := fun y => by have := hI.2.2.2.2 y; omega
  have hL1 : LIR (oUsed S P nx) (n + 1) := hI.up
  have ens : nsS (oUsed S P nx).2.2.1 = nsS S := rfl
  have ent : ntS (oUsed S P nx).2.2.1 = ntS S := rfl
  refine w_aload_n C dL_law_1513 rfl ?_
  refine w_subV sdR C (as := []) dL_law_1514 (apR _ _) (cnS_R _ _) (fun b1 => c_X6_used hl hI.1 (Nat.le_refl _) hR) mX6_used vX6_used lk_L_212 i0 rfl rfl rfl rfl ⟨by omega, by omega, by omega, by omega⟩ (Nat.le_of_ble_eq_true rfl) (fun r M1 hp => ?_)
  obtain ⟨rfl, hR1, hM1⟩ := side_c hM hp hL1.1.2.2.1
  refine w_aload_n C dL_law_1517 rfl ?_
  refine w_subV sdM C (as := []) dL_law_1518 (apM _ _) (cnS_M _ _) (fun b1 => c_X7_used hl hI.1 hM1) mX7_used vX7_used lk_L_215 i40 rfl rfl rfl rfl ⟨by omega, by omega, by omega, by omega⟩ (Nat.le_of_ble_eq_true rfl) (fun r M2 hp2 => ?_)
  obtain ⟨⟨v, rfl, hv⟩, hM2, hR2, -, -⟩ := side_b hR1 hL1.1.2.2.1 hp2
  refine w_icmpES C dL_law_1521 (hv rfl) ?_
  rw [← ens, ← ent]
  exact kk _ _ _ _ _ _ _ (by omega) (by omega) hL1 hR2 hM2 had
theorem k_phaseW (hl : l.stackTraces = false) (C : Cx l p s m args meth c cL_law RL 9 D cA b0 tab) {b L : Nat} {xs : Nat → Int32} (hX : va_X b L xs s s.heap) (hbl : b < s.heap.size) (hbA : ¬ b0 b) (had : ad 99 0 = b) (hL : L ≤ 2147483647) {S : Sg} {P : List Pc} {nx n : Nat} {i : Int} (hI : LI S P nx n) (hn : n < 600) (hR : RepRoom S P nx M) (hM : RepMo S P nx M) (hi : 0 ≤ i ∧ i + 5 < L) (hroom : 40 ≤ R.frames ∧ 4000 ≤ R.locals ∧ cells + 1000 ≤ R.cells ∧ slots + 12000 ≤ R.slots)
    (kk : KL p l e R s m args below meth c D cA b0 cells slots Q b i n) : Wm p l e R s m args below meth c 9 D cA b0 cells slots Q 1526 (lvL i) [] ad (cnB (nsS S) (ntS S)) M := by
  have i40 : inD (cnB (nsS S) (ntS S)) 40 0 := Nat.zero_lt_one
  have i0 : inD (cnB (nsS S) (ntS S)) 0 0 := Nat.zero_lt_one
  have hnx : nx < 1000000 := by have := hI.2.2.2.1; omega
  have hmd : ∀ y, mdS S y < 1000000 := fun y => by have := hI.2.2.2.2 y; omega
  have x1 := rg32 (xs (i + 1).toNat)
  have hL1 : LIR (oPhase (xs (i + 1).toNat).toInt S P nx) (n + 1) := by
    have h9 := hI.up
    unfold LIR oPhase
    (repeat' split) <;> exact h9
  have ens : nsS (oPhase (xs (i + 1).toNat).toInt S P nx).2.2.1 = nsS S := by
    unfold oPhase
    (repeat' split) <;> rfl
  have ent : ntS (oPhase (xs (i + 1).toNat).toInt S P nx).2.2.1 = ntS S := by
    unfold oPhase
    (repeat' split) <;> rfl
  have ecd : (oPhase (xs (i + 1).toNat).toInt S P nx).1 ≤ 9 := by
    unfold oPhase
    (repeat' split) <;> exact Nat.le_of_ble_eq_true rfl
  refine w_aload_n C dL_law_1526 rfl ?_
  refine w_arg C hX hbl hbA had hL hi (by omega) dL_law_1527 dL_law_1528 dL_law_1530 dL_law_1531 dL_law_1532 rfl rfl ?_
  refine w_aload_n C dL_law_1533 rfl ?_
  refine w_subS sdR C (as := [aO 0 0, aI (xs (i + 1).toNat).toInt, aO 80 0]) dL_law_1534 (apR _ _) (cnS_R _ _) (fun b1 => h_phase hl (c_X6_phase hl hI.1 hR _ x1)) mhL_phase sL_phase lk_L_216 rfl rfl ⟨by omega, by omega, by omega, by omega⟩ (Nat.le_of_ble_eq_true rfl) (fun r M1 hp => ?_)
  obtain ⟨rfl, hR1, hM1, ho1⟩ := side_a hM hp hL1.1.2.2.1
  refine w_istore C dL_law_1537 (by decide) ?_
  refine w_aload_n C dL_law_1539 rfl ?_
  refine w_arg C hX hbl hbA had hL hi (by omega) dL_law_1540 dL_law_1541 dL_law_1543 dL_law_1544 dL_law_1545 rfl rfl ?_
  refine w_subV sdM C (as := [aI (xs (i + 1).toNat).toInt]) dL_law_1546 (apM _ _) (cnS_M _ _) (fun b1 => c_X7_phase hl hI.1 hM1 _ x1) mX7_phase vX7_phase lk_L_218 Nat.zero_lt_one rfl rfl rfl rfl ⟨by omega, by omega, by omega, by omega⟩ (Nat.le_of_ble_eq_true rfl) (fun r M2 hp2 => ?_)
  obtain ⟨⟨v, rfl, hv⟩, hM2, hR2, hth, hout⟩ := side_b hR1 hL1.1.2.2.1 hp2
  refine w_istore C dL_law_1549 (by decide) ?_
  refine w_tail hl C rfl dL_law_1551 dL_law_1552 dL_law_1555 dL_law_1557 dL_law_1562 dL_law_1564 dL_law_1567 dL_law_1568 dL_law_1569 dL_law_1570 dL_law_1572 dL_law_1573 dL_law_1574 ⟨by omega, by omega, by omega, by omega⟩ rfl rfl rfl rfl ecd hth (fun h => by rw [hout, ho1 h, hv h]) ?_
  refine w_goto C dL_law_1579 ?_
  refine Wm.lsub (lv' := lvL i) ⟨rfl, rfl, rfl, rfl, rfl, rfl, trivial⟩ ?_
  rw [← ens, ← ent]
  exact kk _ _ _ _ _ _ _ (by omega) (by omega) hL1 hR2 hM2 had
end Cs
