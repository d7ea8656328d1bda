/-! the cases of the law: made, pliesFor, cut, isSound -/
section Cs
variable {p : Program} {l : Launch} {e : Env} {R : Room} {s : State} {m : MethodId} {args : Array Value} {below : List Frame} {meth : Method} {c : Code} {D : va_G} {cA : Nat → ClassId} {b0 : Nat → Prop} {cells slots : Nat} {Q : State → Prop} {ad : Ads} {M : Mem} {tab : List ExceptionTableEntry}
theorem k_madeW (hl : l.stackTraces = false) (C : Cx l p s m args meth c cL_law RL 9 D cA b0 tab) {b L : Nat} {xs : Nat → Int32} (hX : va_X b L xs s s.heap) (hbl : b < s.heap.size) (hbA : ¬ b0 b) (had : ad 99 0 = b) (hL : L ≤ 2147483647) {S : Sg} {P : List Pc} {nx n : Nat} {i : Int} (hI : LI S P nx n) (hn : n < 600) (hR : RepRoom S P nx M) (hM : RepMo S P nx M) (hi : 0 ≤ i ∧ i + 5 < L) (hroom : 40 ≤ R.frames ∧ 4000 ≤ R.locals ∧ cells + 1000 ≤ R.cells ∧ slots + 12000 ≤ R.slots)
    (kk : KL p l e R s m args below meth c D cA b0 cells slots Q b i n) : Wm p l e R s m args below meth c 9 D cA b0 cells slots Q 2263 (lvL i) [] ad (cnB (nsS S) (ntS S)) M := by
  have i40 : inD (cnB (nsS S) (ntS S)) 40 0 := Nat.zero_lt_one
  have i0 : inD (cnB (nsS S) (ntS S)) 0 0 := Nat.zero_lt_one
  have hnx : nx < 1000000 := by have := hI.2.2.2.1; omega
  have hmd : ∀ y, mdS S y < 1000000 := fun y => by have := hI.2.2.2.2 y; omega
  have x1 := rg32 (xs (i + 1).toNat)
  have hL1 : LIR (oMade (xs (i + 1).toNat).toInt S P nx) (n + 1) := by
    have h9 := hI.up
    unfold LIR oMade
    (repeat' split) <;> exact h9
  have ens : nsS (oMade (xs (i + 1).toNat).toInt S P nx).2.2.1 = nsS S := by
    unfold oMade
    (repeat' split) <;> rfl
  have ent : ntS (oMade (xs (i + 1).toNat).toInt S P nx).2.2.1 = ntS S := by
    unfold oMade
    (repeat' split) <;> rfl
  have ecd : (oMade (xs (i + 1).toNat).toInt S P nx).1 ≤ 9 := by
    unfold oMade
    (repeat' split) <;> exact Nat.le_of_ble_eq_true rfl
  refine w_aload_n C dL_law_2263 rfl ?_
  refine w_arg C hX hbl hbA had hL hi (by omega) dL_law_2264 dL_law_2265 dL_law_2267 dL_law_2268 dL_law_2269 rfl rfl ?_
  refine w_aload_n C dL_law_2270 rfl ?_
  refine w_subS sdR C (as := [aO 0 0, aI (xs (i + 1).toNat).toInt, aO 80 0]) dL_law_2271 (apR _ _) (cnS_R _ _) (fun b1 => h_made hl (c_X6_made hl hI.1 (Nat.le_refl _) hR _ x1)) mhL_made sL_made lk_L_257 rfl rfl ⟨by omega, by omega, by omega, by omega⟩ (Nat.le_of_ble_eq_true rfl) (fun r M1 hp => ?_)
  obtain ⟨rfl, hR1, hM1, ho1⟩ := side_a hM hp hL1.1.2.2.1
  refine w_istore C dL_law_2274 (by decide) ?_
  refine w_aload_n C dL_law_2276 rfl ?_
  refine w_arg C hX hbl hbA had hL hi (by omega) dL_law_2277 dL_law_2278 dL_law_2280 dL_law_2281 dL_law_2282 rfl rfl ?_
  refine w_subV sdM C (as := [aI (xs (i + 1).toNat).toInt]) dL_law_2283 (apM _ _) (cnS_M _ _) (fun b1 => c_X7_made hl hI.1 hM1 _ x1) mX7_made vX7_made lk_L_259 Nat.zero_lt_one rfl rfl rfl rfl ⟨by omega, by omega, by omega, by omega⟩ (Nat.le_of_ble_eq_true rfl) (fun r M2 hp2 => ?_)
  obtain ⟨⟨v, rfl, hv⟩, hM2, hR2, hth, hout⟩ := side_b hR1 hL1.1.2.2.1 hp2
  refine w_istore C dL_law_2286 (by decide) ?_
  refine w_tail hl C rfl dL_law_2288 dL_law_2289 dL_law_2292 dL_law_2294 dL_law_2299 dL_law_2301 dL_law_2304 dL_law_2305 dL_law_2306 dL_law_2307 dL_law_2309 dL_law_2310 dL_law_2311 ⟨by omega, by omega, by omega, by omega⟩ rfl rfl rfl rfl ecd hth (fun h => by rw [hout, ho1 h, hv h]) ?_
  refine w_goto C dL_law_2316 ?_
  refine Wm.lsub (lv' := lvL i) ⟨rfl, rfl, rfl, rfl, rfl, rfl, trivial⟩ ?_
  rw [← ens, ← ent]
  exact kk _ _ _ _ _ _ _ (by omega) (by omega) hL1 hR2 hM2 had
theorem k_pliesForW (hl : l.stackTraces = false) (C : Cx l p s m args meth c cL_law RL 9 D cA b0 tab) {b L : Nat} {xs : Nat → Int32} (hX : va_X b L xs s s.heap) (hbl : b < s.heap.size) (hbA : ¬ b0 b) (had : ad 99 0 = b) (hL : L ≤ 2147483647) {S : Sg} {P : List Pc} {nx n : Nat} {i : Int} (hI : LI S P nx n) (hn : n < 600) (hR : RepRoom S P nx M) (hM : RepMo S P nx M) (hi : 0 ≤ i ∧ i + 5 < L) (hroom : 40 ≤ R.frames ∧ 4000 ≤ R.locals ∧ cells + 1000 ≤ R.cells ∧ slots + 12000 ≤ R.slots)
    (kk : KL p l e R s m args below meth c D cA b0 cells slots Q b i n) : Wm p l e R s m args below meth c 9 D cA b0 cells slots Q 2319 (lvL i) [] ad (cnB (nsS S) (ntS S)) M := by
  have i40 : inD (cnB (nsS S) (ntS S)) 40 0 := Nat.zero_lt_one
  have i0 : inD (cnB (nsS S) (ntS S)) 0 0 := Nat.zero_lt_one
  have hnx : nx < 1000000 := by have := hI.2.2.2.1; omega
  have hmd : ∀ y, mdS S y < 1000000 := fun y => by have := hI.2.2.2.2 y; omega
  have x1 := rg32 (xs (i + 1).toNat)
  have x2 := rg32 (xs (i + 2).toNat)
  have hL1 : LIR (oPliesFor (xs (i + 1).toNat).toInt (xs (i + 2).toNat).toInt S P nx) (n + 1) := by
    have h9 := hI.up
    unfold LIR oPliesFor
    (repeat' split) <;> exact h9
  have ens : nsS (oPliesFor (xs (i + 1).toNat).toInt (xs (i + 2).toNat).toInt S P nx).2.2.1 = nsS S := by
    unfold oPliesFor
    (repeat' split) <;> rfl
  have ent : ntS (oPliesFor (xs (i + 1).toNat).toInt (xs (i + 2).toNat).toInt S P nx).2.2.1 = ntS S := by
    unfold oPliesFor
    (repeat' split) <;> rfl
  have ecd : (oPliesFor (xs (i + 1).toNat).toInt (xs (i + 2).toNat).toInt S P nx).1 ≤ 9 := by
    unfold oPliesFor
    (repeat' split) <;> exact Nat.le_of_ble_eq_true rfl
  refine w_aload_n C dL_law_2319 rfl ?_
  refine w_arg C hX hbl hbA had hL hi (by omega) dL_law_2320 dL_law_2321 dL_law_2323 dL_law_2324 dL_law_2325 rfl rfl ?_
  refine w_arg C hX hbl hbA had hL hi (by omega) dL_law_2326 dL_law_2327 dL_law_2329 dL_law_2330 dL_law_2331 rfl rfl ?_
  refine w_aload_n C dL_law_2332 rfl ?_
  refine w_subS sdR C (as := [aO 0 0, aI (xs (i + 1).toNat).toInt, aI (xs (i + 2).toNat).toInt, aO 80 0]) dL_law_2333 (apR _ _) (cnS_R _ _) (fun b1 => h_pliesFor hl (c_X6_pliesFor hl hI.1 (fun y j h => (hI.2.1.1 j h).2.2.2.2.2.2.2.2.2 y) (Nat.le_refl _) (Nat.le_refl _) hR _ _ x1 x2)) mhL_pliesFor sL_pliesFor lk_L_260 rfl rfl ⟨by omega, by omega, by omega, by omega⟩ (Nat.le_of_ble_eq_true rfl) (fun r M1 hp => ?_)
  obtain ⟨rfl, hR1, hM1, ho1⟩ := side_a hM hp hL1.1.2.2.1
  refine w_istore C dL_law_2336 (by decide) ?_
  refine w_aload_n C dL_law_2338 rfl ?_
  refine w_arg C hX hbl hbA had hL hi (by omega) dL_law_2339 dL_law_2340 dL_law_2342 dL_law_2343 dL_law_2344 rfl rfl ?_
  refine w_arg C hX hbl hbA had hL hi (by omega) dL_law_2345 dL_law_2346 dL_law_2348 dL_law_2349 dL_law_2350 rfl rfl ?_
  refine w_subV sdM C (as := [aI (xs (i + 1).toNat).toInt, aI (xs (i + 2).toNat).toInt]) dL_law_2351 (apM _ _) (cnS_M _ _) (fun b1 => c_X7_pliesFor hl hI.1 hM1 _ _ x1 x2) mX7_pliesFor vX7_pliesFor lk_L_262 Nat.zero_lt_one rfl rfl rfl rfl ⟨by omega, by omega, by omega, by omega⟩ (Nat.le_of_ble_eq_true rfl) (fun r M2 hp2 => ?_)
  obtain ⟨⟨v, rfl, hv⟩, hM2, hR2, hth, hout⟩ := side_b hR1 hL1.1.2.2.1 hp2
  refine w_istore C dL_law_2354 (by decide) ?_
  refine w_tail hl C rfl dL_law_2356 dL_law_2357 dL_law_2360 dL_law_2362 dL_law_2367 dL_law_2369 dL_law_2372 dL_law_2373 dL_law_2374 dL_law_2375 dL_law_2377 dL_law_2378 dL_law_2379 ⟨by omega, by omega, by omega, by omega⟩ rfl rfl rfl rfl ecd hth (fun h => by rw [hout, ho1 h, hv h]) ?_
  refine w_goto C dL_law_2384 ?_
  refine Wm.lsub (lv' := lvL i) ⟨rfl, rfl, rfl, rfl, rfl, rfl, trivial⟩ ?_
  rw [← ens, ← ent]
  exact kk _ _ _ _ _ _ _ (by omega) (by omega) hL1 hR2 hM2 had
theorem k_cutW (hl : l.stackTraces = false) (C : Cx l p s m args meth c cL_law RL 9 D cA b0 tab) {b L : Nat} {xs : Nat → Int32} (hX : va_X b L xs s s.heap) (hbl : b < s.heap.size) (hbA : ¬ b0 b) (had : ad 99 0 = b) (hL : L ≤ 2147483647) {S : Sg} {P : List Pc} {nx n : Nat} {i : Int} (hI : LI S P nx n) (hn : n < 600) (hR : RepRoom S P nx M) (hM : RepMo S P nx M) (hi : 0 ≤ i ∧ i + 5 < L) (hroom : 40 ≤ R.frames ∧ 4000 ≤ R.locals ∧ cells + 1000 ≤ R.cells ∧ slots + 12000 ≤ R.slots)
    (kk : KL p l e R s m args below meth c D cA b0 cells slots Q b i n) : Wm p l e R s m args below meth c 9 D cA b0 cells slots Q 2387 (lvL i) [] ad (cnB (nsS S) (ntS S)) M := by
  have i40 : inD (cnB (nsS S) (ntS S)) 40 0 := Nat.zero_lt_one
  have i0 : inD (cnB (nsS S) (ntS S)) 0 0 := Nat.zero_lt_one
  have hnx : nx < 1000000 := by have := hI.2.2.2.1; omega
  have hmd : ∀ y, mdS S y < 1000000 := fun y => by have := hI.2.2.2.2 y; omega
  refine w_aload_n C dL_law_2387 rfl ?_
  refine w_subV sdR C (as := []) dL_law_2388 (apR _ _) (cnS_R _ _) (fun b1 => c_X6_cut hl hI.1 (Nat.le_refl _) hR) mX6_cut vX6_cut lk_L_263 i0 rfl rfl rfl rfl ⟨by omega, by omega, by omega, by omega⟩ (Nat.le_of_ble_eq_true rfl) (fun r M1 hp => ?_)
  obtain ⟨rfl, rfl⟩ := hp
  rw [mJ_same]
  refine w_aload_n C dL_law_2391 rfl ?_
  refine w_subV sdM C (as := []) dL_law_2392 (apM _ _) (cnS_M _ _) (fun b1 => c_X7_cut hl hM) mX7_cut vX7_cut lk_L_267 i40 rfl rfl rfl rfl ⟨by omega, by omega, by omega, by omega⟩ (Nat.le_of_ble_eq_true rfl) (fun r M2 hp2 => ?_)
  obtain ⟨hM2, -, rfl⟩ := hp2
  refine w_lcmpS C dL_law_2395 rfl ?_
  refine w_if_eq_y C dL_law_2396 (by omega) rfl ?_
  exact kk _ _ _ _ _ _ _ (by omega) (by omega) hI.up (hR.side hI.1.2.2.1 mJ_M) (hM2.side mJ_M') had
theorem k_isSoundW (hl : l.stackTraces = false) (C : Cx l p s m args meth c cL_law RL 9 D cA b0 tab) {b L : Nat} {xs : Nat → Int32} (hX : va_X b L xs s s.heap) (hbl : b < s.heap.size) (hbA : ¬ b0 b) (had : ad 99 0 = b) (hL : L ≤ 2147483647) {S : Sg} {P : List Pc} {nx n : Nat} {i : Int} (hI : LI S P nx n) (hn : n < 600) (hR : RepRoom S P nx M) (hM : RepMo S P nx M) (hi : 0 ≤ i ∧ i + 5 < L) (hroom : 40 ≤ R.frames ∧ 4000 ≤ R.locals ∧ cells + 1000 ≤ R.cells ∧ slots + 12000 ≤ R.slots)
    (kk : KL p l e R s m args below meth c D cA b0 cells slots Q b i n) : Wm p l e R s m args below meth c 9 D cA b0 cells slots Q 2532 (lvL i) [] ad (cnB (nsS S) (ntS S)) M := by
  have i40 : inD (cnB (nsS S) (ntS S)) 40 0 := Nat.zero_lt_one
  have i0 : inD (cnB (nsS S) (ntS S)) 0 0 := Nat.zero_lt_one
  have hnx : nx < 1000000 := by have := hI.2.2.2.1; omega
  have hmd : ∀ y, mdS S y < 1000000 := fun y => by have := hI.2.2.2.2 y; omega
  have hL1 : LIR (oIsSound S P nx) (n + 1) := hI.up
  have ens : nsS (oIsSound S P nx).2.2.1 = nsS S := rfl
  have ent : ntS (oIsSound S P nx).2.2.1 = ntS S := rfl
  refine w_aload_n C dL_law_2532 rfl ?_
  refine w_subV sdR C (as := []) dL_law_2533 (apR _ _) (cnS_R _ _) (fun b1 => c_X6_isSound hl hI.1 (hI.bE (by omega)) hmd (fun y h => (hI.2.1.2 y h).1) (Nat.le_refl _) (Nat.le_refl _) hR) mX6_isSound vX6_isSound lk_L_275 i0 rfl rfl rfl rfl ⟨by omega, by omega, by omega, by omega⟩ (Nat.le_of_ble_eq_true rfl) (fun r M1 hp => ?_)
  obtain ⟨rfl, hR1, hM1⟩ := side_c hM hp hL1.1.2.2.1
  refine w_aload_n C dL_law_2536 rfl ?_
  refine w_subV sdM C (as := []) dL_law_2537 (apM _ _) (cnS_M _ _) (fun b1 => c_X7_isSound hl hI.1 hI.2.2.1 hI.2.1 (hI.bE (by omega)) hmd hnx hM1) mX7_isSound vX7_isSound lk_L_279 i40 rfl rfl rfl rfl ⟨by omega, by omega, by omega, by omega⟩ (Nat.le_of_ble_eq_true rfl) (fun r M2 hp2 => ?_)
  obtain ⟨⟨v, rfl, hv⟩, hM2, hR2, -, -⟩ := side_b hR1 hL1.1.2.2.1 hp2
  refine w_icmpES C dL_law_2540 (hv rfl) ?_
  rw [← ens, ← ent]
  exact kk _ _ _ _ _ _ _ (by omega) (by omega) hL1 hR2 hM2 had
end Cs
