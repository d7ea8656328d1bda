/-! the cases of the law: setCloth, addFlaw, clearFlaws, fold -/
section Cs
variable {p : Program} {l : Launch} {e : Env} {R : Room} {s : State} {m : MethodId} {args : Array Value} {below : List Frame} {meth : Method} {c : Code} {D : va_G} {cA : Nat → ClassId} {b0 : Nat → Prop} {cells slots : Nat} {Q : State → Prop} {ad : Ads} {M : Mem} {tab : List ExceptionTableEntry}
theorem k_setClothW (hl : l.stackTraces = false) (C : Cx l p s m args meth c cL_law RL 9 D cA b0 tab) {b L : Nat} {xs : Nat → Int32} (hX : va_X b L xs s s.heap) (hbl : b < s.heap.size) (hbA : ¬ b0 b) (had : ad 99 0 = b) (hL : L ≤ 2147483647) {S : Sg} {P : List Pc} {nx n : Nat} {i : Int} (hI : LI S P nx n) (hn : n < 600) (hR : RepRoom S P nx M) (hM : RepMo S P nx M) (hi : 0 ≤ i ∧ i + 5 < L) (hroom : 40 ≤ R.frames ∧ 4000 ≤ R.locals ∧ cells + 1000 ≤ R.cells ∧ slots + 12000 ≤ R.slots)
    (kk : KL p l e R s m args below meth c D cA b0 cells slots Q b i n) : Wm p l e R s m args below meth c 9 D cA b0 cells slots Q 220 (lvL i) [] ad (cnB (nsS S) (ntS S)) M := by
  have i40 : inD (cnB (nsS S) (ntS S)) 40 0 := Nat.zero_lt_one
  have i0 : inD (cnB (nsS S) (ntS S)) 0 0 := Nat.zero_lt_one
  have hnx : nx < 1000000 := by have := hI.2.2.2.1; omega
  have hmd : ∀ y, mdS S y < 1000000 := fun y => by have := hI.2.2.2.2 y; omega
  have x1 := rg32 (xs (i + 1).toNat)
  have x2 := rg32 (xs (i + 2).toNat)
  have x3 := rg32 (xs (i + 3).toNat)
  have hL1 : LIR (oSetCloth (xs (i + 1).toNat).toInt (wb (xs (i + 2).toNat).toInt) (xs (i + 3).toNat).toInt S P nx) (n + 1) := li_setCloth hI _ _ _ (wb_le _)
  have ens : nsS (oSetCloth (xs (i + 1).toNat).toInt (wb (xs (i + 2).toNat).toInt) (xs (i + 3).toNat).toInt S P nx).2.2.1 = nsS S := by
    unfold oSetCloth
    (repeat' split) <;> rfl
  have ent : ntS (oSetCloth (xs (i + 1).toNat).toInt (wb (xs (i + 2).toNat).toInt) (xs (i + 3).toNat).toInt S P nx).2.2.1 = ntS S := by
    unfold oSetCloth
    (repeat' split) <;> rfl
  have ecd : (oSetCloth (xs (i + 1).toNat).toInt (wb (xs (i + 2).toNat).toInt) (xs (i + 3).toNat).toInt S P nx).1 ≤ 9 := by
    unfold oSetCloth
    (repeat' split) <;> exact Nat.le_of_ble_eq_true rfl
  refine w_aload_n C dL_law_220 rfl ?_
  refine w_arg C hX hbl hbA had hL hi (by omega) dL_law_221 dL_law_222 dL_law_224 dL_law_225 dL_law_226 rfl rfl ?_
  refine w_arg C hX hbl hbA had hL hi (by omega) dL_law_227 dL_law_228 dL_law_230 dL_law_231 dL_law_232 rfl rfl ?_
  refine w_nz C x2 dL_law_233 dL_law_236 dL_law_237 dL_law_240 ?_
  refine w_arg C hX hbl hbA had hL hi (by omega) dL_law_241 dL_law_242 dL_law_244 dL_law_245 dL_law_246 rfl rfl ?_
  refine w_aload_n C dL_law_247 rfl ?_
  refine w_subS sdR C (as := [aO 0 0, aI (xs (i + 1).toNat).toInt, aI (wb (xs (i + 2).toNat).toInt : Nat), aI (xs (i + 3).toNat).toInt, aO 80 0]) dL_law_248 (apR _ _) (cnS_R _ _) (fun b1 => h_setCloth hl (c_X6_setCloth hl hI.1 hR _ _ _ x1 (wb_le _) x3)) mhL_setCloth sL_setCloth lk_L_134 rfl rfl ⟨by omega, by omega, by omega, by omega⟩ (Nat.le_of_ble_eq_true rfl) (fun r M1 hp => ?_)
  obtain ⟨rfl, hR1, hM1, ho1⟩ := side_a hM hp hL1.1.2.2.1
  refine w_istore C dL_law_251 (by decide) ?_
  refine w_aload_n C dL_law_253 rfl ?_
  refine w_arg C hX hbl hbA had hL hi (by omega) dL_law_254 dL_law_255 dL_law_257 dL_law_258 dL_law_259 rfl rfl ?_
  refine w_arg C hX hbl hbA had hL hi (by omega) dL_law_260 dL_law_261 dL_law_263 dL_law_264 dL_law_265 rfl rfl ?_
  refine w_nz C x2 dL_law_266 dL_law_269 dL_law_270 dL_law_273 ?_
  refine w_arg C hX hbl hbA had hL hi (by omega) dL_law_274 dL_law_275 dL_law_277 dL_law_278 dL_law_279 rfl rfl ?_
  refine w_subV sdM C (as := [aI (xs (i + 1).toNat).toInt, aI (wb (xs (i + 2).toNat).toInt : Nat), aI (xs (i + 3).toNat).toInt]) dL_law_280 (apM _ _) (cnS_M _ _) (fun b1 => c_X7_setCloth hl hI.1 hM1 _ _ _ x1 (wb_le _) x3) mX7_setCloth vX7_setCloth lk_L_139 Nat.zero_lt_one rfl rfl rfl rfl ⟨by omega, by omega, by omega, by omega⟩ (Nat.le_of_ble_eq_true rfl) (fun r M2 hp2 => ?_)
  obtain ⟨⟨v, rfl, hv⟩, hM2, hR2, hth, hout⟩ := side_b hR1 hL1.1.2.2.1 hp2
  refine w_istore C dL_law_283 (by decide) ?_
  refine w_tail hl C rfl dL_law_285 dL_law_286 dL_law_289 dL_law_291 dL_law_296 dL_law_298 dL_law_301 dL_law_302 dL_law_303 dL_law_304 dL_law_306 dL_law_307 dL_law_308 ⟨by omega, by omega, by omega, by omega⟩ rfl rfl rfl rfl ecd hth (fun h => by rw [hout, ho1 h, hv h]) ?_
  refine w_goto C dL_law_313 ?_
  refine Wm.lsub (lv' := lvL i) ⟨rfl, rfl, rfl, rfl, rfl, rfl, trivial⟩ ?_
  rw [← ens, ← ent]
  exact kk _ _ _ _ _ _ _ (by omega) (by omega) hL1 hR2 hM2 had
theorem k_addFlawW (hl : l.stackTraces = false) (C : Cx l p s m args meth c cL_law RL 9 D cA b0 tab) {b L : Nat} {xs : Nat → Int32} (hX : va_X b L xs s s.heap) (hbl : b < s.heap.size) (hbA : ¬ b0 b) (had : ad 99 0 = b) (hL : L ≤ 2147483647) {S : Sg} {P : List Pc} {nx n : Nat} {i : Int} (hI : LI S P nx n) (hn : n < 600) (hR : RepRoom S P nx M) (hM : RepMo S P nx M) (hi : 0 ≤ i ∧ i + 5 < L) (hroom : 40 ≤ R.frames ∧ 4000 ≤ R.locals ∧ cells + 1000 ≤ R.cells ∧ slots + 12000 ≤ R.slots)
    (kk : KL p l e R s m args below meth c D cA b0 cells slots Q b i n) : Wm p l e R s m args below meth c 9 D cA b0 cells slots Q 395 (lvL i) [] ad (cnB (nsS S) (ntS S)) M := by
  have i40 : inD (cnB (nsS S) (ntS S)) 40 0 := Nat.zero_lt_one
  have i0 : inD (cnB (nsS S) (ntS S)) 0 0 := Nat.zero_lt_one
  have hnx : nx < 1000000 := by have := hI.2.2.2.1; omega
  have hmd : ∀ y, mdS S y < 1000000 := fun y => by have := hI.2.2.2.2 y; omega
  have x1 := rg32 (xs (i + 1).toNat)
  have x2 := rg32 (xs (i + 2).toNat)
  have hL1 : LIR (oAddFlaw (xs (i + 1).toNat).toInt (xs (i + 2).toNat).toInt S P nx) (n + 1) := li_addFlaw hI _ _
  have ens : nsS (oAddFlaw (xs (i + 1).toNat).toInt (xs (i + 2).toNat).toInt S P nx).2.2.1 = nsS S := by
    unfold oAddFlaw
    (repeat' split) <;> rfl
  have ent : ntS (oAddFlaw (xs (i + 1).toNat).toInt (xs (i + 2).toNat).toInt S P nx).2.2.1 = ntS S := by
    unfold oAddFlaw
    (repeat' split) <;> rfl
  have ecd : (oAddFlaw (xs (i + 1).toNat).toInt (xs (i + 2).toNat).toInt S P nx).1 ≤ 9 := by
    unfold oAddFlaw
    (repeat' split) <;> exact Nat.le_of_ble_eq_true rfl
  refine w_aload_n C dL_law_395 rfl ?_
  refine w_arg C hX hbl hbA had hL hi (by omega) dL_law_396 dL_law_397 dL_law_399 dL_law_400 dL_law_401 rfl rfl ?_
  refine w_arg C hX hbl hbA had hL hi (by omega) dL_law_402 dL_law_403 dL_law_405 dL_law_406 dL_law_407 rfl rfl ?_
  refine w_aload_n C dL_law_408 rfl ?_
  refine w_subS sdR C (as := [aO 0 0, aI (xs (i + 1).toNat).toInt, aI (xs (i + 2).toNat).toInt, aO 80 0]) dL_law_409 (apR _ _) (cnS_R _ _) (fun b1 => h_addFlaw hl (c_X6_addFlaw hl hI.1 hR hnx _ _ x1 x2)) mhL_addFlaw sL_addFlaw lk_L_147 rfl rfl ⟨by omega, by omega, by omega, by omega⟩ (Nat.le_of_ble_eq_true rfl) (fun r M1 hp => ?_)
  obtain ⟨rfl, hR1, hM1, ho1⟩ := side_a hM hp hL1.1.2.2.1
  refine w_istore C dL_law_412 (by decide) ?_
  refine w_aload_n C dL_law_414 rfl ?_
  refine w_arg C hX hbl hbA had hL hi (by omega) dL_law_415 dL_law_416 dL_law_418 dL_law_419 dL_law_420 rfl rfl ?_
  refine w_arg C hX hbl hbA had hL hi (by omega) dL_law_421 dL_law_422 dL_law_424 dL_law_425 dL_law_426 rfl rfl ?_
  refine w_subV sdM C (as := [aI (xs (i + 1).toNat).toInt, aI (xs (i + 2).toNat).toInt]) dL_law_427 (apM _ _) (cnS_M _ _) (fun b1 => c_X7_addFlaw hl hI.1 hnx hM1 _ _ x1 x2) mX7_addFlaw vX7_addFlaw lk_L_150 Nat.zero_lt_one rfl rfl rfl rfl ⟨by omega, by omega, by omega, by omega⟩ (Nat.le_of_ble_eq_true rfl) (fun r M2 hp2 => ?_)
  obtain ⟨⟨v, rfl, hv⟩, hM2, hR2, hth, hout⟩ := side_b hR1 hL1.1.2.2.1 hp2
  refine w_istore C dL_law_430 (by decide) ?_
  refine w_tail hl C rfl dL_law_432 dL_law_433 dL_law_436 dL_law_438 dL_law_443 dL_law_445 dL_law_448 dL_law_449 dL_law_450 dL_law_451 dL_law_453 dL_law_454 dL_law_455 ⟨by omega, by omega, by omega, by omega⟩ rfl rfl rfl rfl ecd hth (fun h => by rw [hout, ho1 h, hv h]) ?_
  refine w_goto C dL_law_460 ?_
  refine Wm.lsub (lv' := lvL i) ⟨rfl, rfl, rfl, rfl, rfl, rfl, trivial⟩ ?_
  rw [← ens, ← ent]
  exact kk _ _ _ _ _ _ _ (by omega) (by omega) hL1 hR2 hM2 had
theorem k_clearFlawsW (hl : l.stackTraces = false) (C : Cx l p s m args meth c cL_law RL 9 D cA b0 tab) {b L : Nat} {xs : Nat → Int32} (hX : va_X b L xs s s.heap) (hbl : b < s.heap.size) (hbA : ¬ b0 b) (had : ad 99 0 = b) (hL : L ≤ 2147483647) {S : Sg} {P : List Pc} {nx n : Nat} {i : Int} (hI : LI S P nx n) (hn : n < 600) (hR : RepRoom S P nx M) (hM : RepMo S P nx M) (hi : 0 ≤ i ∧ i + 5 < L) (hroom : 40 ≤ R.frames ∧ 4000 ≤ R.locals ∧ cells + 1000 ≤ R.cells ∧ slots + 12000 ≤ R.slots)
    (kk : KL p l e R s m args below meth c D cA b0 cells slots Q b i n) : Wm p l e R s m args below meth c 9 D cA b0 cells slots Q 463 (lvL i) [] ad (cnB (nsS S) (ntS S)) M := by
  have i40 : inD (cnB (nsS S) (ntS S)) 40 0 := Nat.zero_lt_one
  have i0 : inD (cnB (nsS S) (ntS S)) 0 0 := Nat.zero_lt_one
  have hnx : nx < 1000000 := by have := hI.2.2.2.1; omega
  have hmd : ∀ y, mdS S y < 1000000 := fun y => by have := hI.2.2.2.2 y; omega
  have hL1 : LIR (oClearFlaws S P nx) (n + 1) := li_clearFlaws hI
  have ens : nsS (oClearFlaws S P nx).2.2.1 = nsS S := rfl
  have ent : ntS (oClearFlaws S P nx).2.2.1 = ntS S := rfl
  refine w_aload_n C dL_law_463 rfl ?_
  refine w_subV sdR C (as := []) dL_law_464 (apR _ _) (cnS_R _ _) (fun b1 => c_X6_clearFlaws hl hI.1 hR) mX6_clearFlaws vX6_clearFlaws lk_L_151 i0 rfl rfl rfl rfl ⟨by omega, by omega, by omega, by omega⟩ (Nat.le_of_ble_eq_true rfl) (fun r M1 hp => ?_)
  obtain ⟨rfl, hR1, hM1⟩ := side_c hM hp hL1.1.2.2.1
  refine w_aload_n C dL_law_467 rfl ?_
  refine w_subV sdM C (as := []) dL_law_468 (apM _ _) (cnS_M _ _) (fun b1 => c_X7_clearFlaws hl hI.1 hM1) mX7_clearFlaws vX7_clearFlaws lk_L_154 i40 rfl rfl rfl rfl ⟨by omega, by omega, by omega, by omega⟩ (Nat.le_of_ble_eq_true rfl) (fun r M2 hp2 => ?_)
  obtain ⟨⟨v, rfl, hv⟩, hM2, hR2, -, -⟩ := side_b hR1 hL1.1.2.2.1 hp2
  refine w_icmpES C dL_law_471 (hv rfl) ?_
  rw [← ens, ← ent]
  exact kk _ _ _ _ _ _ _ (by omega) (by omega) hL1 hR2 hM2 had
theorem k_foldW (hl : l.stackTraces = false) (C : Cx l p s m args meth c cL_law RL 9 D cA b0 tab) {b L : Nat} {xs : Nat → Int32} (hX : va_X b L xs s s.heap) (hbl : b < s.heap.size) (hbA : ¬ b0 b) (had : ad 99 0 = b) (hL : L ≤ 2147483647) {S : Sg} {P : List Pc} {nx n : Nat} {i : Int} (hI : LI S P nx n) (hn : n < 600) (hR : RepRoom S P nx M) (hM : RepMo S P nx M) (hi : 0 ≤ i ∧ i + 5 < L) (hroom : 40 ≤ R.frames ∧ 4000 ≤ R.locals ∧ cells + 1000 ≤ R.cells ∧ slots + 12000 ≤ R.slots)
    (kk : KL p l e R s m args below meth c D cA b0 cells slots Q b i n) : Wm p l e R s m args below meth c 9 D cA b0 cells slots Q 316 (lvL i) [] ad (cnB (nsS S) (ntS S)) M := by
  have i40 : inD (cnB (nsS S) (ntS S)) 40 0 := Nat.zero_lt_one
  have i0 : inD (cnB (nsS S) (ntS S)) 0 0 := Nat.zero_lt_one
  have hnx : nx < 1000000 := by have := hI.2.2.2.1; omega
  have hmd : ∀ y, mdS S y < 1000000 := fun y => by have := hI.2.2.2.2 y; omega
  have x1 := rg32 (xs (i + 1).toNat)
  have hL1 : LIR (oFold (wb (xs (i + 1).toNat).toInt) S P nx) (n + 1) := li_fold hI _ (wb_le _)
  have ens : nsS (oFold (wb (xs (i + 1).toNat).toInt) S P nx).2.2.1 = nsS S := by
    unfold oFold
    (repeat' split) <;> rfl
  have ent : ntS (oFold (wb (xs (i + 1).toNat).toInt) S P nx).2.2.1 = ntS S := by
    unfold oFold
    (repeat' split) <;> rfl
  have ecd : (oFold (wb (xs (i + 1).toNat).toInt) S P nx).1 ≤ 9 := by
    unfold oFold
    (repeat' split) <;> exact Nat.le_of_ble_eq_true rfl
  have e01 : (oFold (wb (xs (i + 1).toNat).toInt) S P nx).2.1 = 0 ∨ (oFold (wb (xs (i + 1).toNat).toInt) S P nx).2.1 = 1 := by
    unfold oFold
    (repeat' split) <;> first | exact Or.inl rfl | exact Or.inr rfl | (have h9 := hI.1.1.2.2.1; show ((fdS S : Nat) : Int) = 0 ∨ ((fdS S : Nat) : Int) = 1; omega)
  refine w_aload_n C dL_law_316 rfl ?_
  refine w_arg C hX hbl hbA had hL hi (by omega) dL_law_317 dL_law_318 dL_law_320 dL_law_321 dL_law_322 rfl rfl ?_
  refine w_nz C x1 dL_law_323 dL_law_326 dL_law_327 dL_law_330 ?_
  refine w_aload_n C dL_law_331 rfl ?_
  refine w_subS sdR C (as := [aO 0 0, aI (wb (xs (i + 1).toNat).toInt : Nat), aO 80 0]) dL_law_332 (apR _ _) (cnS_R _ _) (fun b1 => h_fold hl e01 (c_X6_fold hl hI.1 hR _ (wb_le _))) mhL_fold sL_fold lk_L_143 rfl rfl ⟨by omega, by omega, by omega, by omega⟩ (Nat.le_of_ble_eq_true rfl) (fun r M1 hp => ?_)
  obtain ⟨rfl, hR1, hM1, ho1⟩ := side_a hM hp hL1.1.2.2.1
  refine w_istore C dL_law_335 (by decide) ?_
  refine w_aload_n C dL_law_337 rfl ?_
  refine w_arg C hX hbl hbA had hL hi (by omega) dL_law_338 dL_law_339 dL_law_341 dL_law_342 dL_law_343 rfl rfl ?_
  refine w_nz C x1 dL_law_344 dL_law_347 dL_law_348 dL_law_351 ?_
  refine w_subV sdM C (as := [aI (wb (xs (i + 1).toNat).toInt : Nat)]) dL_law_352 (apM _ _) (cnS_M _ _) (fun b1 => c_X7_fold hl hI.1 hM1 _ (wb_le _)) mX7_fold vX7_fold lk_L_146 Nat.zero_lt_one rfl rfl rfl rfl ⟨by omega, by omega, by omega, by omega⟩ (Nat.le_of_ble_eq_true rfl) (fun r M2 hp2 => ?_)
  obtain ⟨⟨v, rfl, hv⟩, hM2, hR2, hth, hout⟩ := side_b hR1 hL1.1.2.2.1 hp2
  refine w_istore C dL_law_355 (by decide) ?_
  refine w_tailF hl C rfl dL_law_357 dL_law_358 dL_law_361 dL_law_363 dL_law_368 dL_law_370 dL_law_373 dL_law_374 dL_law_375 dL_law_376 dL_law_378 dL_law_381 dL_law_382 dL_law_385 dL_law_386 dL_law_387 ⟨by omega, by omega, by omega, by omega⟩ rfl rfl rfl rfl ecd hth (fun h => by rw [hout, ho1 h, hv h]) (fun h => by rw [hv h]; exact e01) ?_
  refine w_goto C dL_law_392 ?_
  refine Wm.lsub (lv' := lvL i) ⟨rfl, rfl, rfl, rfl, rfl, rfl, trivial⟩ ?_
  rw [← ens, ← ent]
  exact kk _ _ _ _ _ _ _ (by omega) (by omega) hL1 hR2 hM2 had
end Cs
