/-! the cases of the law: addShape, addStyle -/
section Cs
variable {p : Program} {l : Launch} {e : Env} {R : Room} {s : State} {m : MethodId} {args : Array Value} {below : List Frame} {meth : Method} {c : Code} {D : va_G} {cA : Nat → ClassId} {b0 : Nat → Prop} {cells slots : Nat} {Q : State → Prop} {ad : Ads} {M : Mem} {tab : List ExceptionTableEntry}
theorem k_addShapeW (hl : l.stackTraces = false) (C : Cx l p s m args meth c cL_law RL 9 D cA b0 tab) {b L : Nat} {xs : Nat → Int32} (hX : va_X b L xs s s.heap) (hbl : b < s.heap.size) (hbA : ¬ b0 b) (had : ad 99 0 = b) (hL : L ≤ 2147483647) {S : Sg} {P : List Pc} {nx n : Nat} {i : Int} (hI : LI S P nx n) (hn : n < 600) (hR : RepRoom S P nx M) (hM : RepMo S P nx M) (hi : 0 ≤ i ∧ i + 5 < L) (hroom : 40 ≤ R.frames ∧ 4000 ≤ R.locals ∧ cells + 1000 ≤ R.cells ∧ slots + 12000 ≤ R.slots)
    (kk : KL p l e R s m args below meth c D cA b0 cells slots Q b i n) : Wm p l e R s m args below meth c 9 D cA b0 cells slots Q 476 (lvL i) [] ad (cnB (nsS S) (ntS S)) M := by
  have i40 : inD (cnB (nsS S) (ntS S)) 40 0 := Nat.zero_lt_one
  have i0 : inD (cnB (nsS S) (ntS S)) 0 0 := Nat.zero_lt_one
  have hnx : nx < 1000000 := by have := hI.2.2.2.1; omega
  have hmd : ∀ y, mdS S y < 1000000 := fun y => by have := hI.2.2.2.2 y; omega
  have x1 := rg32 (xs (i + 1).toNat)
  have x2 := rg32 (xs (i + 2).toNat)
  have hch : 0 ≤ (xs (i + 1).toNat).toInt % 65536 ∧ (xs (i + 1).toNat).toInt % 65536 ≤ 65535 := by omega
  have hL1 : LIR (oAddShape ((xs (i + 1).toNat).toInt % 65536) (wb (xs (i + 2).toNat).toInt) S P nx) (n + 1) := li_addShape hI _ _ (wb_le _)
  have ent : ntS (oAddShape ((xs (i + 1).toNat).toInt % 65536) (wb (xs (i + 2).toNat).toInt) S P nx).2.2.1 = ntS S := by
    unfold oAddShape
    (repeat' split) <;> rfl
  have hen : (oAddShape ((xs (i + 1).toNat).toInt % 65536) (wb (xs (i + 2).toNat).toInt) S P nx).1 ≠ 0 → nsS (oAddShape ((xs (i + 1).toNat).toInt % 65536) (wb (xs (i + 2).toNat).toInt) S P nx).2.2.1 = nsS S := by
    unfold oAddShape
    (repeat' split) <;> first | exact fun _ => rfl | exact fun h => absurd rfl h
  have ecd : (oAddShape ((xs (i + 1).toNat).toInt % 65536) (wb (xs (i + 2).toNat).toInt) S P nx).1 ≤ 9 := by
    unfold oAddShape
    (repeat' split) <;> exact Nat.le_of_ble_eq_true rfl
  refine w_aload_n C dL_law_476 rfl ?_
  refine w_arg C hX hbl hbA had hL hi (by omega) dL_law_477 dL_law_478 dL_law_480 dL_law_481 dL_law_482 rfl rfl ?_
  refine w_i2c C dL_law_483 ?_
  refine w_arg C hX hbl hbA had hL hi (by omega) dL_law_484 dL_law_485 dL_law_487 dL_law_488 dL_law_489 rfl rfl ?_
  refine w_nz C x2 dL_law_490 dL_law_493 dL_law_494 dL_law_497 ?_
  refine w_aload_n C dL_law_498 rfl ?_
  refine w_subSN sdR (ks := [4, 5, 13, 30, 31, 92, 94]) C (as := [aO 0 0, aI ((xs (i + 1).toNat).toInt % 65536), aI (wb (xs (i + 2).toNat).toInt : Nat), aO 80 0]) dL_law_499 (apR _ _) (cnS_R _ _) (fun b1 => h_addShape hl hen (c_X6_addShape hl hI.1 hI.2.1 hR _ hch _ (wb_le _) rfl)) mhL_addShape sL_addShape lk_L_155 rfl rfl ⟨by omega, by omega, by omega, by omega⟩ (Nat.le_of_ble_eq_true rfl) rfl (fun r' ad' cn' M' hp => ⟨hp.2.2, fun k hk => by rw [hp.2.1]; exact cnt_offR hk⟩) (fun r ad' cn' M1 hp => ?_)
  obtain ⟨hp, rfl, hag⟩ := hp
  obtain ⟨rfl, hR1, hM1, ho1⟩ := side_a hM hp hL1.1.2.2.1
  refine ⟨fun z hz => ?_, _, rfl⟩
  cases hz
  rw [cnJ_R]
  have had : adJ sdR ad' ad 99 0 = b := by
    rw [← had]
    unfold adJ
    split
    · exact hag 99 0 (by decide)
    · rfl
  refine w_istore C dL_law_502 (by decide) ?_
  refine w_aload_n C dL_law_504 rfl ?_
  refine w_arg C hX hbl hbA had hL hi (by omega) dL_law_505 dL_law_506 dL_law_508 dL_law_509 dL_law_510 rfl rfl ?_
  refine w_i2c C dL_law_511 ?_
  refine w_arg C hX hbl hbA had hL hi (by omega) dL_law_512 dL_law_513 dL_law_515 dL_law_516 dL_law_517 rfl rfl ?_
  refine w_nz C x2 dL_law_518 dL_law_521 dL_law_522 dL_law_525 ?_
  refine w_subV sdM C (as := [aI ((xs (i + 1).toNat).toInt % 65536), aI (wb (xs (i + 2).toNat).toInt : Nat)]) dL_law_526 (apM _ _) (cnS_M _ _) (fun b1 => c_X7_addShape hl hI.1 hI.2.1 hM1 _ hch _ (wb_le _)) mX7_addShape vX7_addShape lk_L_158 Nat.zero_lt_one rfl rfl rfl rfl ⟨by omega, by omega, by omega, by omega⟩ (Nat.le_of_ble_eq_true rfl) (fun r M2 hp2 => ?_)
  obtain ⟨⟨v, rfl, hv⟩, hM2, hR2, hth, hout⟩ := side_b hR1 hL1.1.2.2.1 hp2
  refine w_istore C dL_law_529 (by decide) ?_
  refine w_tail hl C rfl dL_law_531 dL_law_532 dL_law_535 dL_law_537 dL_law_542 dL_law_544 dL_law_547 dL_law_548 dL_law_549 dL_law_550 dL_law_552 dL_law_553 dL_law_554 ⟨by omega, by omega, by omega, by omega⟩ rfl rfl rfl rfl ecd hth (fun h => by rw [hout, ho1 h, hv h]) ?_
  refine w_goto C dL_law_559 ?_
  refine Wm.lsub (lv' := lvL i) ⟨rfl, rfl, rfl, rfl, rfl, rfl, trivial⟩ ?_
  rw [← ent]
  exact kk _ _ _ _ _ _ _ (by omega) (by omega) hL1 hR2 hM2 had
theorem k_addStyleW (hl : l.stackTraces = false) (C : Cx l p s m args meth c cL_law RL 9 D cA b0 tab) {b L : Nat} {xs : Nat → Int32} (hX : va_X b L xs s s.heap) (hbl : b < s.heap.size) (hbA : ¬ b0 b) (had : ad 99 0 = b) (hL : L ≤ 2147483647) {S : Sg} {P : List Pc} {nx n : Nat} {i : Int} (hI : LI S P nx n) (hn : n < 600) (hR : RepRoom S P nx M) (hM : RepMo S P nx M) (hi : 0 ≤ i ∧ i + 5 < L) (hroom : 40 ≤ R.frames ∧ 4000 ≤ R.locals ∧ cells + 1000 ≤ R.cells ∧ slots + 12000 ≤ R.slots)
    (kk : KL p l e R s m args below meth c D cA b0 cells slots Q b i n) : Wm p l e R s m args below meth c 9 D cA b0 cells slots Q 1582 (lvL i) [] ad (cnB (nsS S) (ntS S)) M := by
  have i40 : inD (cnB (nsS S) (ntS S)) 40 0 := Nat.zero_lt_one
  have i0 : inD (cnB (nsS S) (ntS S)) 0 0 := Nat.zero_lt_one
  have hnx : nx < 1000000 := by have := hI.2.2.2.1; omega
  have hmd : ∀ y, mdS S y < 1000000 := fun y => by have := hI.2.2.2.2 y; omega
  have hL1 : LIR (oAddStyle S P nx) (n + 1) := li_addStyle hI
  have ens : nsS (oAddStyle S P nx).2.2.1 = nsS S := by
    unfold oAddStyle
    (repeat' split) <;> rfl
  have hen : (oAddStyle S P nx).1 ≠ 0 → ntS (oAddStyle S P nx).2.2.1 = ntS S := by
    unfold oAddStyle
    (repeat' split) <;> first | exact fun _ => rfl | exact fun h => absurd rfl h
  have ecd : (oAddStyle S P nx).1 ≤ 9 := by
    unfold oAddStyle
    (repeat' split) <;> exact Nat.le_of_ble_eq_true rfl
  refine w_aload_n C dL_law_1582 rfl ?_
  refine w_aload_n C dL_law_1583 rfl ?_
  refine w_subSN sdR (ks := [6, 32, 95]) C (as := [aO 0 0, aO 80 0]) dL_law_1584 (apR _ _) (cnS_R _ _) (fun b1 => h_addStyle hl hen (c_X6_addStyle hl hI.1 hI.2.1 hR rfl)) mhL_addStyle sL_addStyle lk_L_219 rfl rfl ⟨by omega, by omega, by omega, by omega⟩ (Nat.le_of_ble_eq_true rfl) rfl (fun r' ad' cn' M' hp => ⟨hp.2.2, fun k hk => by rw [hp.2.1]; exact cnt_offR hk⟩) (fun r ad' cn' M1 hp => ?_)
  obtain ⟨hp, rfl, hag⟩ := hp
  obtain ⟨rfl, hR1, hM1, ho1⟩ := side_a hM hp hL1.1.2.2.1
  refine ⟨fun z hz => ?_, _, rfl⟩
  cases hz
  rw [cnJ_R]
  have had : adJ sdR ad' ad 99 0 = b := by
    rw [← had]
    unfold adJ
    split
    · exact hag 99 0 (by decide)
    · rfl
  refine w_istore C dL_law_1587 (by decide) ?_
  refine w_aload_n C dL_law_1589 rfl ?_
  refine w_subV sdM C (as := []) dL_law_1590 (apM _ _) (cnS_M _ _) (fun b1 => c_X7_addStyle hl hI.1 hM1) mX7_addStyle vX7_addStyle lk_L_222 Nat.zero_lt_one rfl rfl rfl rfl ⟨by omega, by omega, by omega, by omega⟩ (Nat.le_of_ble_eq_true rfl) (fun r M2 hp2 => ?_)
  obtain ⟨⟨v, rfl, hv⟩, hM2, hR2, hth, hout⟩ := side_b hR1 hL1.1.2.2.1 hp2
  refine w_istore C dL_law_1593 (by decide) ?_
  refine w_tail hl C rfl dL_law_1595 dL_law_1596 dL_law_1599 dL_law_1601 dL_law_1606 dL_law_1608 dL_law_1611 dL_law_1612 dL_law_1613 dL_law_1614 dL_law_1616 dL_law_1617 dL_law_1618 ⟨by omega, by omega, by omega, by omega⟩ rfl rfl rfl rfl ecd hth (fun h => by rw [hout, ho1 h, hv h]) ?_
  refine w_goto C dL_law_1623 ?_
  refine Wm.lsub (lv' := lvL i) ⟨rfl, rfl, rfl, rfl, rfl, rfl, trivial⟩ ?_
  rw [← ens]
  exact kk _ _ _ _ _ _ _ (by omega) (by omega) hL1 hR2 hM2 had
end Cs
