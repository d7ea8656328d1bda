/-! the cases of the law: canMake, canMakeByTaking, make -/
section Cs
variable {p : Program} {l : Launch} {e : Env} {R : Room} {s : State} {m : MethodId} {args : Array Value} {below : List Frame} {meth : Method} {c : Code} {D : va_G} {cA : Nat → ClassId} {b0 : Nat → Prop} {cells slots : Nat} {Q : State → Prop} {ad : Ads} {M : Mem} {tab : List ExceptionTableEntry}
theorem k_canMakeW (hl : l.stackTraces = false) (C : Cx l p s m args meth c cL_law RL 9 D cA b0 tab) {b L : Nat} {xs : Nat → Int32} (hX : va_X b L xs s s.heap) (hbl : b < s.heap.size) (hbA : ¬ b0 b) (had : ad 99 0 = b) (hL : L ≤ 2147483647) {S : Sg} {P : List Pc} {nx n : Nat} {i : Int} (hI : LI S P nx n) (hn : n < 600) (hR : RepRoom S P nx M) (hM : RepMo S P nx M) (hi : 0 ≤ i ∧ i + 5 < L) (hroom : 40 ≤ R.frames ∧ 4000 ≤ R.locals ∧ cells + 1000 ≤ R.cells ∧ slots + 12000 ≤ R.slots)
    (kk : KL p l e R s m args below meth c D cA b0 cells slots Q b i n) : Wm p l e R s m args below meth c 9 D cA b0 cells slots Q 2083 (lvL i) [] ad (cnB (nsS S) (ntS S)) M := by
  have i40 : inD (cnB (nsS S) (ntS S)) 40 0 := Nat.zero_lt_one
  have i0 : inD (cnB (nsS S) (ntS S)) 0 0 := Nat.zero_lt_one
  have hnx : nx < 1000000 := by have := hI.2.2.2.1; omega
  have hmd : ∀ y, mdS S y < 1000000 := fun y => by have := hI.2.2.2.2 y; omega
  have x1 := rg32 (xs (i + 1).toNat)
  have hL1 : LIR (oCanMake (xs (i + 1).toNat).toInt S P nx) (n + 1) := by
    have h9 := hI.up
    unfold LIR oCanMake
    (repeat' split) <;> exact h9
  have ens : nsS (oCanMake (xs (i + 1).toNat).toInt S P nx).2.2.1 = nsS S := by
    unfold oCanMake
    (repeat' split) <;> rfl
  have ent : ntS (oCanMake (xs (i + 1).toNat).toInt S P nx).2.2.1 = ntS S := by
    unfold oCanMake
    (repeat' split) <;> rfl
  have ecd : (oCanMake (xs (i + 1).toNat).toInt S P nx).1 ≤ 9 := by
    unfold oCanMake
    (repeat' split) <;> exact Nat.le_of_ble_eq_true rfl
  refine w_aload_n C dL_law_2083 rfl ?_
  refine w_arg C hX hbl hbA had hL hi (by omega) dL_law_2084 dL_law_2085 dL_law_2087 dL_law_2088 dL_law_2089 rfl rfl ?_
  refine w_aload_n C dL_law_2090 rfl ?_
  refine w_subS sdR C (as := [aO 0 0, aI (xs (i + 1).toNat).toInt, aO 80 0]) dL_law_2091 (apR _ _) (cnS_R _ _) (fun b1 => h_canMake hl (c_X6_canMake hl hI.1 (fun y j h => (hI.2.1.1 j h).2.2.2.2.2.2.2.2.2 y) (Nat.le_refl _) (Nat.le_refl _) hR _ x1)) mhL_canMake sL_canMake lk_L_248 rfl rfl ⟨by omega, by omega, by omega, by omega⟩ (Nat.le_of_ble_eq_true rfl) (fun r M1 hp => ?_)
  obtain ⟨rfl, hR1, hM1, ho1⟩ := side_a hM hp hL1.1.2.2.1
  refine w_istore C dL_law_2094 (by decide) ?_
  refine w_aload_n C dL_law_2096 rfl ?_
  refine w_arg C hX hbl hbA had hL hi (by omega) dL_law_2097 dL_law_2098 dL_law_2100 dL_law_2101 dL_law_2102 rfl rfl ?_
  refine w_subV sdM C (as := [aI (xs (i + 1).toNat).toInt]) dL_law_2103 (apM _ _) (cnS_M _ _) (fun b1 => c_X7_canMake hl hI.1 hM1 _ x1) mX7_canMake vX7_canMake lk_L_250 Nat.zero_lt_one rfl rfl rfl rfl ⟨by omega, by omega, by omega, by omega⟩ (Nat.le_of_ble_eq_true rfl) (fun r M2 hp2 => ?_)
  obtain ⟨⟨v, rfl, hv⟩, hM2, hR2, hth, hout⟩ := side_b hR1 hL1.1.2.2.1 hp2
  refine w_istore C dL_law_2106 (by decide) ?_
  refine w_tail hl C rfl dL_law_2108 dL_law_2109 dL_law_2112 dL_law_2114 dL_law_2119 dL_law_2121 dL_law_2124 dL_law_2125 dL_law_2126 dL_law_2127 dL_law_2129 dL_law_2130 dL_law_2131 ⟨by omega, by omega, by omega, by omega⟩ rfl rfl rfl rfl ecd hth (fun h => by rw [hout, ho1 h, hv h]) ?_
  refine w_goto C dL_law_2136 ?_
  refine Wm.lsub (lv' := lvL i) ⟨rfl, rfl, rfl, rfl, rfl, rfl, trivial⟩ ?_
  rw [← ens, ← ent]
  exact kk _ _ _ _ _ _ _ (by omega) (by omega) hL1 hR2 hM2 had
theorem k_canMakeByTakingW (hl : l.stackTraces = false) (C : Cx l p s m args meth c cL_law RL 9 D cA b0 tab) {b L : Nat} {xs : Nat → Int32} (hX : va_X b L xs s s.heap) (hbl : b < s.heap.size) (hbA : ¬ b0 b) (had : ad 99 0 = b) (hL : L ≤ 2147483647) {S : Sg} {P : List Pc} {nx n : Nat} {i : Int} (hI : LI S P nx n) (hn : n < 600) (hR : RepRoom S P nx M) (hM : RepMo S P nx M) (hi : 0 ≤ i ∧ i + 5 < L) (hroom : 40 ≤ R.frames ∧ 4000 ≤ R.locals ∧ cells + 1000 ≤ R.cells ∧ slots + 12000 ≤ R.slots)
    (kk : KL p l e R s m args below meth c D cA b0 cells slots Q b i n) : Wm p l e R s m args below meth c 9 D cA b0 cells slots Q 2139 (lvL i) [] ad (cnB (nsS S) (ntS S)) M := by
  have i40 : inD (cnB (nsS S) (ntS S)) 40 0 := Nat.zero_lt_one
  have i0 : inD (cnB (nsS S) (ntS S)) 0 0 := Nat.zero_lt_one
  have hnx : nx < 1000000 := by have := hI.2.2.2.1; omega
  have hmd : ∀ y, mdS S y < 1000000 := fun y => by have := hI.2.2.2.2 y; omega
  have x1 := rg32 (xs (i + 1).toNat)
  have hL1 : LIR (oCanMake (xs (i + 1).toNat).toInt S P nx) (n + 1) := by
    have h9 := hI.up
    unfold LIR oCanMake
    (repeat' split) <;> exact h9
  have ens : nsS (oCanMake (xs (i + 1).toNat).toInt S P nx).2.2.1 = nsS S := by
    unfold oCanMake
    (repeat' split) <;> rfl
  have ent : ntS (oCanMake (xs (i + 1).toNat).toInt S P nx).2.2.1 = ntS S := by
    unfold oCanMake
    (repeat' split) <;> rfl
  have ecd : (oCanMake (xs (i + 1).toNat).toInt S P nx).1 ≤ 9 := by
    unfold oCanMake
    (repeat' split) <;> exact Nat.le_of_ble_eq_true rfl
  refine w_aload_n C dL_law_2139 rfl ?_
  refine w_arg C hX hbl hbA had hL hi (by omega) dL_law_2140 dL_law_2141 dL_law_2143 dL_law_2144 dL_law_2145 rfl rfl ?_
  refine w_aload_n C dL_law_2146 rfl ?_
  refine w_subS sdR C (as := [aO 0 0, aI (xs (i + 1).toNat).toInt, aO 80 0]) dL_law_2147 (apR _ _) (cnS_R _ _) (fun b1 => h_canMakeByTaking hl (c_X6_canMakeByTaking hl hI.1 hI.2.1 (Nat.le_refl _) (Nat.le_refl _) hR _ x1)) mhL_canMakeByTaking sL_canMakeByTaking lk_L_251 rfl rfl ⟨by omega, by omega, by omega, by omega⟩ (Nat.le_of_ble_eq_true rfl) (fun r M1 hp => ?_)
  obtain ⟨rfl, hR1, hM1, ho1⟩ := side_a hM hp hL1.1.2.2.1
  refine w_istore C dL_law_2150 (by decide) ?_
  refine w_aload_n C dL_law_2152 rfl ?_
  refine w_arg C hX hbl hbA had hL hi (by omega) dL_law_2153 dL_law_2154 dL_law_2156 dL_law_2157 dL_law_2158 rfl rfl ?_
  refine w_subV sdM C (as := [aI (xs (i + 1).toNat).toInt]) dL_law_2159 (apM _ _) (cnS_M _ _) (fun b1 => c_X7_canMakeByTaking hl hI.1 hM1 _ x1) mX7_canMakeByTaking vX7_canMakeByTaking lk_L_253 Nat.zero_lt_one rfl rfl rfl rfl ⟨by omega, by omega, by omega, by omega⟩ (Nat.le_of_ble_eq_true rfl) (fun r M2 hp2 => ?_)
  obtain ⟨⟨v, rfl, hv⟩, hM2, hR2, hth, hout⟩ := side_b hR1 hL1.1.2.2.1 hp2
  refine w_istore C dL_law_2162 (by decide) ?_
  refine w_tail hl C rfl dL_law_2164 dL_law_2165 dL_law_2168 dL_law_2170 dL_law_2175 dL_law_2177 dL_law_2180 dL_law_2181 dL_law_2182 dL_law_2183 dL_law_2185 dL_law_2186 dL_law_2187 ⟨by omega, by omega, by omega, by omega⟩ rfl rfl rfl rfl ecd hth (fun h => by rw [hout, ho1 h, hv h]) ?_
  refine w_goto C dL_law_2192 ?_
  refine Wm.lsub (lv' := lvL i) ⟨rfl, rfl, rfl, rfl, rfl, rfl, trivial⟩ ?_
  rw [← ens, ← ent]
  exact kk _ _ _ _ _ _ _ (by omega) (by omega) hL1 hR2 hM2 had
theorem k_makeW (hl : l.stackTraces = false) (C : Cx l p s m args meth c cL_law RL 9 D cA b0 tab) {b L : Nat} {xs : Nat → Int32} (hX : va_X b L xs s s.heap) (hbl : b < s.heap.size) (hbA : ¬ b0 b) (had : ad 99 0 = b) (hL : L ≤ 2147483647) {S : Sg} {P : List Pc} {nx n : Nat} {i : Int} (hI : LI S P nx n) (hn : n < 600) (hR : RepRoom S P nx M) (hM : RepMo S P nx M) (hi : 0 ≤ i ∧ i + 5 < L) (hroom : 40 ≤ R.frames ∧ 4000 ≤ R.locals ∧ cells + 1000 ≤ R.cells ∧ slots + 12000 ≤ R.slots)
    (kk : KL p l e R s m args below meth c D cA b0 cells slots Q b i n) : Wm p l e R s m args below meth c 9 D cA b0 cells slots Q 2195 (lvL i) [] ad (cnB (nsS S) (ntS S)) M := by
  have i40 : inD (cnB (nsS S) (ntS S)) 40 0 := Nat.zero_lt_one
  have i0 : inD (cnB (nsS S) (ntS S)) 0 0 := Nat.zero_lt_one
  have hnx : nx < 1000000 := by have := hI.2.2.2.1; omega
  have hmd : ∀ y, mdS S y < 1000000 := fun y => by have := hI.2.2.2.2 y; omega
  have x1 := rg32 (xs (i + 1).toNat)
  have x2 := rg32 (xs (i + 2).toNat)
  have hL1 : LIR (oMake (xs (i + 1).toNat).toInt (xs (i + 2).toNat).toInt S P nx) (n + 1) := li_make hI _ _
  have ens : nsS (oMake (xs (i + 1).toNat).toInt (xs (i + 2).toNat).toInt S P nx).2.2.1 = nsS S := by
    unfold oMake
    (repeat' split) <;> rfl
  have ent : ntS (oMake (xs (i + 1).toNat).toInt (xs (i + 2).toNat).toInt S P nx).2.2.1 = ntS S := by
    unfold oMake
    (repeat' split) <;> rfl
  have ecd : (oMake (xs (i + 1).toNat).toInt (xs (i + 2).toNat).toInt S P nx).1 ≤ 9 := by
    unfold oMake
    (repeat' split) <;> exact Nat.le_of_ble_eq_true rfl
  refine w_aload_n C dL_law_2195 rfl ?_
  refine w_arg C hX hbl hbA had hL hi (by omega) dL_law_2196 dL_law_2197 dL_law_2199 dL_law_2200 dL_law_2201 rfl rfl ?_
  refine w_arg C hX hbl hbA had hL hi (by omega) dL_law_2202 dL_law_2203 dL_law_2205 dL_law_2206 dL_law_2207 rfl rfl ?_
  refine w_aload_n C dL_law_2208 rfl ?_
  refine w_subS sdR C (as := [aO 0 0, aI (xs (i + 1).toNat).toInt, aI (xs (i + 2).toNat).toInt, aO 80 0]) dL_law_2209 (apR _ _) (cnS_R _ _) (fun b1 => h_make hl (c_X6_make hl hI.1 hI.2.1 hmd (Nat.le_refl _) (Nat.le_refl _) hR _ _ x1 x2)) mhL_make sL_make lk_L_254 rfl rfl ⟨by omega, by omega, by omega, by omega⟩ (Nat.le_of_ble_eq_true rfl) (fun r M1 hp => ?_)
  obtain ⟨rfl, hR1, hM1, ho1⟩ := side_a hM hp hL1.1.2.2.1
  refine w_istore C dL_law_2212 (by decide) ?_
  refine w_aload_n C dL_law_2214 rfl ?_
  refine w_arg C hX hbl hbA had hL hi (by omega) dL_law_2215 dL_law_2216 dL_law_2218 dL_law_2219 dL_law_2220 rfl rfl ?_
  refine w_arg C hX hbl hbA had hL hi (by omega) dL_law_2221 dL_law_2222 dL_law_2224 dL_law_2225 dL_law_2226 rfl rfl ?_
  refine w_subV sdM C (as := [aI (xs (i + 1).toNat).toInt, aI (xs (i + 2).toNat).toInt]) dL_law_2227 (apM _ _) (cnS_M _ _) (fun b1 => c_X7_make hl hI.1 hI.2.1 hmd hM1 _ _ x1 x2) mX7_make vX7_make lk_L_256 Nat.zero_lt_one rfl rfl rfl rfl ⟨by omega, by omega, by omega, by omega⟩ (Nat.le_of_ble_eq_true rfl) (fun r M2 hp2 => ?_)
  obtain ⟨⟨v, rfl, hv⟩, hM2, hR2, hth, hout⟩ := side_b hR1 hL1.1.2.2.1 hp2
  refine w_istore C dL_law_2230 (by decide) ?_
  refine w_tail hl C rfl dL_law_2232 dL_law_2233 dL_law_2236 dL_law_2238 dL_law_2243 dL_law_2245 dL_law_2248 dL_law_2249 dL_law_2250 dL_law_2251 dL_law_2253 dL_law_2254 dL_law_2255 ⟨by omega, by omega, by omega, by omega⟩ rfl rfl rfl rfl ecd hth (fun h => by rw [hout, ho1 h, hv h]) ?_
  refine w_goto C dL_law_2260 ?_
  refine Wm.lsub (lv' := lvL i) ⟨rfl, rfl, rfl, rfl, rfl, rfl, trivial⟩ ?_
  rw [← ens, ← ent]
  exact kk _ _ _ _ _ _ _ (by omega) (by omega) hL1 hR2 hM2 had
end Cs
