/-! the cases of the law: addCloth, roll, spread, pieces -/
section Cs
variable {p : Program} {l : Launch} {e : Env} {R : Room} {s : State} {m : MethodId} {args : Array Value} {below : List Frame} {meth : Method} {c : Code} {D : va_G} {cA : Nat → ClassId} {b0 : Nat → Prop} {cells slots : Nat} {Q : State → Prop} {ad : Ads} {M : Mem} {tab : List ExceptionTableEntry}
theorem k_addClothW (hl : l.stackTraces = false) (C : Cx l p s m args meth c cL_law RL 9 D cA b0 tab) {b L : Nat} {xs : Nat → Int32} (hX : va_X b L xs s s.heap) (hbl : b < s.heap.size) (hbA : ¬ b0 b) (had : ad 99 0 = b) (hL : L ≤ 2147483647) {S : Sg} {P : List Pc} {nx n : Nat} {i : Int} (hI : LI S P nx n) (hn : n < 600) (hR : RepRoom S P nx M) (hM : RepMo S P nx M) (hi : 0 ≤ i ∧ i + 5 < L) (hroom : 40 ≤ R.frames ∧ 4000 ≤ R.locals ∧ cells + 1000 ≤ R.cells ∧ slots + 12000 ≤ R.slots)
    (kk : KL p l e R s m args below meth c D cA b0 cells slots Q b i n) : Wm p l e R s m args below meth c 9 D cA b0 cells slots Q 1874 (lvL i) [] ad (cnB (nsS S) (ntS S)) M := by
  have i40 : inD (cnB (nsS S) (ntS S)) 40 0 := Nat.zero_lt_one
  have i0 : inD (cnB (nsS S) (ntS S)) 0 0 := Nat.zero_lt_one
  have hnx : nx < 1000000 := by have := hI.2.2.2.1; omega
  have hmd : ∀ y, mdS S y < 1000000 := fun y => by have := hI.2.2.2.2 y; omega
  have x1 := rg32 (xs (i + 1).toNat)
  have hL1 : LIR (oAddCloth (xs (i + 1).toNat).toInt S P nx) (n + 1) := li_addCloth hI _
  have ens : nsS (oAddCloth (xs (i + 1).toNat).toInt S P nx).2.2.1 = nsS S := by
    unfold oAddCloth
    (repeat' split) <;> rfl
  have ent : ntS (oAddCloth (xs (i + 1).toNat).toInt S P nx).2.2.1 = ntS S := by
    unfold oAddCloth
    (repeat' split) <;> rfl
  have ecd : (oAddCloth (xs (i + 1).toNat).toInt S P nx).1 ≤ 9 := by
    unfold oAddCloth
    (repeat' split) <;> exact Nat.le_of_ble_eq_true rfl
  refine w_aload_n C dL_law_1874 rfl ?_
  refine w_arg C hX hbl hbA had hL hi (by omega) dL_law_1875 dL_law_1876 dL_law_1878 dL_law_1879 dL_law_1880 rfl rfl ?_
  refine w_aload_n C dL_law_1881 rfl ?_
  refine w_subS sdR C (as := [aO 0 0, aI (xs (i + 1).toNat).toInt, aO 80 0]) dL_law_1882 (apR _ _) (cnS_R _ _) (fun b1 => h_addCloth hl (c_X6_addCloth hl hI.1 hR _ x1)) mhL_addCloth sL_addCloth lk_L_235 rfl rfl ⟨by omega, by omega, by omega, by omega⟩ (Nat.le_of_ble_eq_true rfl) (fun r M1 hp => ?_)
  obtain ⟨rfl, hR1, hM1, ho1⟩ := side_a hM hp hL1.1.2.2.1
  refine w_istore C dL_law_1885 (by decide) ?_
  refine w_aload_n C dL_law_1887 rfl ?_
  refine w_arg C hX hbl hbA had hL hi (by omega) dL_law_1888 dL_law_1889 dL_law_1891 dL_law_1892 dL_law_1893 rfl rfl ?_
  refine w_subV sdM C (as := [aI (xs (i + 1).toNat).toInt]) dL_law_1894 (apM _ _) (cnS_M _ _) (fun b1 => c_X7_addCloth hl hI.1 hM1 _ x1) mX7_addCloth vX7_addCloth lk_L_237 Nat.zero_lt_one rfl rfl rfl rfl ⟨by omega, by omega, by omega, by omega⟩ (Nat.le_of_ble_eq_true rfl) (fun r M2 hp2 => ?_)
  obtain ⟨⟨v, rfl, hv⟩, hM2, hR2, hth, hout⟩ := side_b hR1 hL1.1.2.2.1 hp2
  refine w_istore C dL_law_1897 (by decide) ?_
  refine w_tail hl C rfl dL_law_1899 dL_law_1900 dL_law_1903 dL_law_1905 dL_law_1910 dL_law_1912 dL_law_1915 dL_law_1916 dL_law_1917 dL_law_1918 dL_law_1920 dL_law_1921 dL_law_1922 ⟨by omega, by omega, by omega, by omega⟩ rfl rfl rfl rfl ecd hth (fun h => by rw [hout, ho1 h, hv h]) ?_
  refine w_goto C dL_law_1927 ?_
  refine Wm.lsub (lv' := lvL i) ⟨rfl, rfl, rfl, rfl, rfl, rfl, trivial⟩ ?_
  rw [← ens, ← ent]
  exact kk _ _ _ _ _ _ _ (by omega) (by omega) hL1 hR2 hM2 had
theorem k_rollW (hl : l.stackTraces = false) (C : Cx l p s m args meth c cL_law RL 9 D cA b0 tab) {b L : Nat} {xs : Nat → Int32} (hX : va_X b L xs s s.heap) (hbl : b < s.heap.size) (hbA : ¬ b0 b) (had : ad 99 0 = b) (hL : L ≤ 2147483647) {S : Sg} {P : List Pc} {nx n : Nat} {i : Int} (hI : LI S P nx n) (hn : n < 600) (hR : RepRoom S P nx M) (hM : RepMo S P nx M) (hi : 0 ≤ i ∧ i + 5 < L) (hroom : 40 ≤ R.frames ∧ 4000 ≤ R.locals ∧ cells + 1000 ≤ R.cells ∧ slots + 12000 ≤ R.slots)
    (kk : KL p l e R s m args below meth c D cA b0 cells slots Q b i n) : Wm p l e R s m args below meth c 9 D cA b0 cells slots Q 1930 (lvL i) [] ad (cnB (nsS S) (ntS S)) M := by
  have i40 : inD (cnB (nsS S) (ntS S)) 40 0 := Nat.zero_lt_one
  have i0 : inD (cnB (nsS S) (ntS S)) 0 0 := Nat.zero_lt_one
  have hnx : nx < 1000000 := by have := hI.2.2.2.1; omega
  have hmd : ∀ y, mdS S y < 1000000 := fun y => by have := hI.2.2.2.2 y; omega
  have hL1 : LIR (oRoll S P nx) (n + 1) := hI.up
  have ens : nsS (oRoll S P nx).2.2.1 = nsS S := rfl
  have ent : ntS (oRoll S P nx).2.2.1 = ntS S := rfl
  refine w_aload_n C dL_law_1930 rfl ?_
  refine w_subV sdR C (as := []) dL_law_1931 (apR _ _) (cnS_R _ _) (fun b1 => c_X6_roll hl hR) mX6_roll vX6_roll lk_L_238 i0 rfl rfl rfl rfl ⟨by omega, by omega, by omega, by omega⟩ (Nat.le_of_ble_eq_true rfl) (fun r M1 hp => ?_)
  obtain ⟨rfl, hR1, hM1⟩ := side_c hM hp hL1.1.2.2.1
  refine w_aload_n C dL_law_1934 rfl ?_
  refine w_subV sdM C (as := []) dL_law_1935 (apM _ _) (cnS_M _ _) (fun b1 => c_X7_roll hl hM1) mX7_roll vX7_roll lk_L_241 i40 rfl rfl rfl rfl ⟨by omega, by omega, by omega, by omega⟩ (Nat.le_of_ble_eq_true rfl) (fun r M2 hp2 => ?_)
  obtain ⟨⟨v, rfl, hv⟩, hM2, hR2, -, -⟩ := side_b hR1 hL1.1.2.2.1 hp2
  refine w_icmpES C dL_law_1938 (hv rfl) ?_
  rw [← ens, ← ent]
  exact kk _ _ _ _ _ _ _ (by omega) (by omega) hL1 hR2 hM2 had
theorem k_spreadW (hl : l.stackTraces = false) (C : Cx l p s m args meth c cL_law RL 9 D cA b0 tab) {b L : Nat} {xs : Nat → Int32} (hX : va_X b L xs s s.heap) (hbl : b < s.heap.size) (hbA : ¬ b0 b) (had : ad 99 0 = b) (hL : L ≤ 2147483647) {S : Sg} {P : List Pc} {nx n : Nat} {i : Int} (hI : LI S P nx n) (hn : n < 600) (hR : RepRoom S P nx M) (hM : RepMo S P nx M) (hi : 0 ≤ i ∧ i + 5 < L) (hroom : 40 ≤ R.frames ∧ 4000 ≤ R.locals ∧ cells + 1000 ≤ R.cells ∧ slots + 12000 ≤ R.slots)
    (kk : KL p l e R s m args below meth c D cA b0 cells slots Q b i n) : Wm p l e R s m args below meth c 9 D cA b0 cells slots Q 1943 (lvL i) [] ad (cnB (nsS S) (ntS S)) M := by
  have i40 : inD (cnB (nsS S) (ntS S)) 40 0 := Nat.zero_lt_one
  have i0 : inD (cnB (nsS S) (ntS S)) 0 0 := Nat.zero_lt_one
  have hnx : nx < 1000000 := by have := hI.2.2.2.1; omega
  have hmd : ∀ y, mdS S y < 1000000 := fun y => by have := hI.2.2.2.2 y; omega
  have x1 := rg32 (xs (i + 1).toNat)
  have hL1 : LIR (oSpread (xs (i + 1).toNat).toInt S P nx) (n + 1) := li_spread hI _
  have ens : nsS (oSpread (xs (i + 1).toNat).toInt S P nx).2.2.1 = nsS S := by
    unfold oSpread
    (repeat' split) <;> rfl
  have ent : ntS (oSpread (xs (i + 1).toNat).toInt S P nx).2.2.1 = ntS S := by
    unfold oSpread
    (repeat' split) <;> rfl
  have ecd : (oSpread (xs (i + 1).toNat).toInt S P nx).1 ≤ 9 := by
    unfold oSpread
    (repeat' split) <;> exact Nat.le_of_ble_eq_true rfl
  refine w_aload_n C dL_law_1943 rfl ?_
  refine w_arg C hX hbl hbA had hL hi (by omega) dL_law_1944 dL_law_1945 dL_law_1947 dL_law_1948 dL_law_1949 rfl rfl ?_
  refine w_aload_n C dL_law_1950 rfl ?_
  refine w_subS sdR C (as := [aO 0 0, aI (xs (i + 1).toNat).toInt, aO 80 0]) dL_law_1951 (apR _ _) (cnS_R _ _) (fun b1 => h_spread hl (c_X6_spread hl hI.1 (Nat.le_refl _) hR _ x1)) mhL_spread sL_spread lk_L_242 rfl rfl ⟨by omega, by omega, by omega, by omega⟩ (Nat.le_of_ble_eq_true rfl) (fun r M1 hp => ?_)
  obtain ⟨rfl, hR1, hM1, ho1⟩ := side_a hM hp hL1.1.2.2.1
  refine w_istore C dL_law_1954 (by decide) ?_
  refine w_aload_n C dL_law_1956 rfl ?_
  refine w_arg C hX hbl hbA had hL hi (by omega) dL_law_1957 dL_law_1958 dL_law_1960 dL_law_1961 dL_law_1962 rfl rfl ?_
  refine w_subV sdM C (as := [aI (xs (i + 1).toNat).toInt]) dL_law_1963 (apM _ _) (cnS_M _ _) (fun b1 => c_X7_spread hl hI.1 hnx (hI.bE (by omega)) hM1 _ x1) mX7_spread vX7_spread lk_L_244 Nat.zero_lt_one rfl rfl rfl rfl ⟨by omega, by omega, by omega, by omega⟩ (Nat.le_of_ble_eq_true rfl) (fun r M2 hp2 => ?_)
  obtain ⟨⟨v, rfl, hv⟩, hM2, hR2, hth, hout⟩ := side_b hR1 hL1.1.2.2.1 hp2
  refine w_istore C dL_law_1966 (by decide) ?_
  refine w_tail hl C rfl dL_law_1968 dL_law_1969 dL_law_1972 dL_law_1974 dL_law_1979 dL_law_1981 dL_law_1984 dL_law_1985 dL_law_1986 dL_law_1987 dL_law_1989 dL_law_1990 dL_law_1991 ⟨by omega, by omega, by omega, by omega⟩ rfl rfl rfl rfl ecd hth (fun h => by rw [hout, ho1 h, hv h]) ?_
  refine w_goto C dL_law_1996 ?_
  refine Wm.lsub (lv' := lvL i) ⟨rfl, rfl, rfl, rfl, rfl, rfl, trivial⟩ ?_
  rw [← ens, ← ent]
  exact kk _ _ _ _ _ _ _ (by omega) (by omega) hL1 hR2 hM2 had
theorem k_piecesW (hl : l.stackTraces = false) (C : Cx l p s m args meth c cL_law RL 9 D cA b0 tab) {b L : Nat} {xs : Nat → Int32} (hX : va_X b L xs s s.heap) (hbl : b < s.heap.size) (hbA : ¬ b0 b) (had : ad 99 0 = b) (hL : L ≤ 2147483647) {S : Sg} {P : List Pc} {nx n : Nat} {i : Int} (hI : LI S P nx n) (hn : n < 600) (hR : RepRoom S P nx M) (hM : RepMo S P nx M) (hi : 0 ≤ i ∧ i + 5 < L) (hroom : 40 ≤ R.frames ∧ 4000 ≤ R.locals ∧ cells + 1000 ≤ R.cells ∧ slots + 12000 ≤ R.slots)
    (kk : KL p l e R s m args below meth c D cA b0 cells slots Q b i n) : Wm p l e R s m args below meth c 9 D cA b0 cells slots Q 1999 (lvL i) [] ad (cnB (nsS S) (ntS S)) M := by
  have i40 : inD (cnB (nsS S) (ntS S)) 40 0 := Nat.zero_lt_one
  have i0 : inD (cnB (nsS S) (ntS S)) 0 0 := Nat.zero_lt_one
  have hnx : nx < 1000000 := by have := hI.2.2.2.1; omega
  have hmd : ∀ y, mdS S y < 1000000 := fun y => by have := hI.2.2.2.2 y; omega
  have x1 := rg32 (xs (i + 1).toNat)
  have x2 := rg32 (xs (i + 2).toNat)
  have hL1 : LIR (oPieces (xs (i + 1).toNat).toInt (wb (xs (i + 2).toNat).toInt) S P nx) (n + 1) := by
    have h9 := hI.up
    unfold LIR oPieces
    (repeat' split) <;> exact h9
  have ens : nsS (oPieces (xs (i + 1).toNat).toInt (wb (xs (i + 2).toNat).toInt) S P nx).2.2.1 = nsS S := by
    unfold oPieces
    (repeat' split) <;> rfl
  have ent : ntS (oPieces (xs (i + 1).toNat).toInt (wb (xs (i + 2).toNat).toInt) S P nx).2.2.1 = ntS S := by
    unfold oPieces
    (repeat' split) <;> rfl
  have ecd : (oPieces (xs (i + 1).toNat).toInt (wb (xs (i + 2).toNat).toInt) S P nx).1 ≤ 9 := by
    unfold oPieces
    (repeat' split) <;> exact Nat.le_of_ble_eq_true rfl
  refine w_aload_n C dL_law_1999 rfl ?_
  refine w_arg C hX hbl hbA had hL hi (by omega) dL_law_2000 dL_law_2001 dL_law_2003 dL_law_2004 dL_law_2005 rfl rfl ?_
  refine w_arg C hX hbl hbA had hL hi (by omega) dL_law_2006 dL_law_2007 dL_law_2009 dL_law_2010 dL_law_2011 rfl rfl ?_
  refine w_nz C x2 dL_law_2012 dL_law_2015 dL_law_2016 dL_law_2019 ?_
  refine w_aload_n C dL_law_2020 rfl ?_
  refine w_subS sdR C (as := [aO 0 0, aI (xs (i + 1).toNat).toInt, aI (wb (xs (i + 2).toNat).toInt : Nat), aO 80 0]) dL_law_2021 (apR _ _) (cnS_R _ _) (fun b1 => h_pieces hl (c_X6_pieces hl hI.1 (Nat.le_refl _) hR _ _ (wb_le _) x1)) mhL_pieces sL_pieces lk_L_245 rfl rfl ⟨by omega, by omega, by omega, by omega⟩ (Nat.le_of_ble_eq_true rfl) (fun r M1 hp => ?_)
  obtain ⟨rfl, hR1, hM1, ho1⟩ := side_a hM hp hL1.1.2.2.1
  refine w_istore C dL_law_2024 (by decide) ?_
  refine w_aload_n C dL_law_2026 rfl ?_
  refine w_arg C hX hbl hbA had hL hi (by omega) dL_law_2027 dL_law_2028 dL_law_2030 dL_law_2031 dL_law_2032 rfl rfl ?_
  refine w_arg C hX hbl hbA had hL hi (by omega) dL_law_2033 dL_law_2034 dL_law_2036 dL_law_2037 dL_law_2038 rfl rfl ?_
  refine w_nz C x2 dL_law_2039 dL_law_2042 dL_law_2043 dL_law_2046 ?_
  refine w_subV sdM C (as := [aI (xs (i + 1).toNat).toInt, aI (wb (xs (i + 2).toNat).toInt : Nat)]) dL_law_2047 (apM _ _) (cnS_M _ _) (fun b1 => c_X7_pieces hl hI.1 hM1 _ x1 _ (wb_le _)) mX7_pieces vX7_pieces lk_L_247 Nat.zero_lt_one rfl rfl rfl rfl ⟨by omega, by omega, by omega, by omega⟩ (Nat.le_of_ble_eq_true rfl) (fun r M2 hp2 => ?_)
  obtain ⟨⟨v, rfl, hv⟩, hM2, hR2, hth, hout⟩ := side_b hR1 hL1.1.2.2.1 hp2
  refine w_istore C dL_law_2050 (by decide) ?_
  refine w_tail hl C rfl dL_law_2052 dL_law_2053 dL_law_2056 dL_law_2058 dL_law_2063 dL_law_2065 dL_law_2068 dL_law_2069 dL_law_2070 dL_law_2071 dL_law_2073 dL_law_2074 dL_law_2075 ⟨by omega, by omega, by omega, by omega⟩ rfl rfl rfl rfl ecd hth (fun h => by rw [hout, ho1 h, hv h]) ?_
  refine w_goto C dL_law_2080 ?_
  refine Wm.lsub (lv' := lvL i) ⟨rfl, rfl, rfl, rfl, rfl, rfl, trivial⟩ ?_
  rw [← ens, ← ent]
  exact kk _ _ _ _ _ _ _ (by omega) (by omega) hL1 hR2 hM2 had
end Cs
