/-! the loop of the law -/
section Cs
variable {p : Program} {l : Launch} {e : Env} {R : Room} {s : State} {m : MethodId} {args : Array Value} {below : List Frame} {meth : Method} {c : Code} {D : va_G} {cA : Nat → ClassId} {b0 : Nat → Prop} {cells slots : Nat} {Q : State → Prop} {ad : Ads} {M : Mem} {tab : List ExceptionTableEntry}
theorem lw_disp (hl : l.stackTraces = false) (C : Cx l p s m args meth c cL_law RL 9 D cA b0 tab) {b L : Nat} {xs : Nat → Int32} (hX : va_X b L xs s s.heap) (hbl : b < s.heap.size) (hbA : ¬ b0 b) (had : ad 99 0 = b) (hL : L ≤ 2147483647) {S : Sg} {P : List Pc} {nx n : Nat} {i z : Int} (hI : LI S P nx n) (hn : n < 600) (hR : RepRoom S P nx M) (hM : RepMo S P nx M) (hi : 0 ≤ i ∧ i + 5 < L) (hroom : 40 ≤ R.frames ∧ 4000 ≤ R.locals ∧ cells + 1000 ≤ R.cells ∧ slots + 12000 ≤ R.slots) (hz : 0 ≤ z ∧ z ≤ 63)
    (kk : KL p l e R s m args below meth c D cA b0 cells slots Q b i n) : Wm p l e R s m args below meth c 9 D cA b0 cells slots Q 45 (lvL i) [aI z] ad (cnB (nsS S) (ntS S)) M := by
  by_cases h39 : z ≤ 39
  · have hd : z = 0 ∨ z = 1 ∨ z = 2 ∨ z = 3 ∨ z = 4 ∨ z = 5 ∨ z = 6 ∨ z = 7 ∨ z = 8 ∨ z = 9 ∨ z = 10 ∨ z = 11 ∨ z = 12 ∨ z = 13 ∨ z = 14 ∨ z = 15 ∨ z = 16 ∨ z = 17 ∨ z = 18 ∨ z = 19 ∨ z = 20 ∨ z = 21 ∨ z = 22 ∨ z = 23 ∨ z = 24 ∨ z = 25 ∨ z = 26 ∨ z = 27 ∨ z = 28 ∨ z = 29 ∨ z = 30 ∨ z = 31 ∨ z = 32 ∨ z = 33 ∨ z = 34 ∨ z = 35 ∨ z = 36 ∨ z = 37 ∨ z = 38 ∨ z = 39 := by omega
    rcases hd with rfl | rfl | rfl | rfl | rfl | rfl | rfl | rfl | rfl | rfl | rfl | rfl | rfl | rfl | rfl | rfl | rfl | rfl | rfl | rfl | rfl | rfl | rfl | rfl | rfl | rfl | rfl | rfl | rfl | rfl | rfl | rfl | rfl | rfl | rfl | rfl | rfl | rfl | rfl | rfl
    · exact w_tsIn C dL_law_45 (by omega) (by omega) rfl rfl (k_setClothW hl C hX hbl hbA had hL hI hn hR hM hi hroom kk)
    · exact w_tsIn C dL_law_45 (by omega) (by omega) rfl rfl (k_foldW hl C hX hbl hbA had hL hI hn hR hM hi hroom kk)
    · exact w_tsIn C dL_law_45 (by omega) (by omega) rfl rfl (k_addFlawW hl C hX hbl hbA had hL hI hn hR hM hi hroom kk)
    · exact w_tsIn C dL_law_45 (by omega) (by omega) rfl rfl (k_clearFlawsW hl C hX hbl hbA had hL hI hn hR hM hi hroom kk)
    · exact w_tsIn C dL_law_45 (by omega) (by omega) rfl rfl (k_addShapeW hl C hX hbl hbA had hL hI hn hR hM hi hroom kk)
    · exact w_tsIn C dL_law_45 (by omega) (by omega) rfl rfl (k_addCellW hl C hX hbl hbA had hL hI hn hR hM hi hroom kk)
    · exact w_tsIn C dL_law_45 (by omega) (by omega) rfl rfl (k_setMarkW hl C hX hbl hbA had hL hI hn hR hM hi hroom kk)
    · exact w_tsIn C dL_law_45 (by omega) (by omega) rfl rfl (k_cellsOfW hl C hX hbl hbA had hL hI hn hR hM hi hroom kk)
    · exact w_tsIn C dL_law_45 (by omega) (by omega) rfl rfl (k_layW hl C hX hbl hbA had hL hI hn hR hM hi hroom kk)
    · exact w_tsIn C dL_law_45 (by omega) (by omega) rfl rfl (k_reasonW hl C hX hbl hbA had hL hI hn hR hM hi hroom kk)
    · exact w_tsIn C dL_law_45 (by omega) (by omega) rfl rfl (k_nestW hl C hX hbl hbA had hL hI hn hR hM hi hroom kk)
    · exact w_tsIn C dL_law_45 (by omega) (by omega) rfl rfl (k_takeOffW hl C hX hbl hbA had hL hI hn hR hM hi hroom kk)
    · exact w_tsIn C dL_law_45 (by omega) (by omega) rfl rfl (k_clearW hl C hX hbl hbA had hL hI hn hR hM hi hroom kk)
    · exact w_tsIn C dL_law_45 (by omega) (by omega) rfl rfl (k_inMarkerW hl C hX hbl hbA had hL hI hn hR hM hi hroom kk)
    · exact w_tsIn C dL_law_45 (by omega) (by omega) rfl rfl (k_rowOfW hl C hX hbl hbA had hL hI hn hR hM hi hroom kk)
    · exact w_tsIn C dL_law_45 (by omega) (by omega) rfl rfl (k_columnOfW hl C hX hbl hbA had hL hI hn hR hM hi hroom kk)
    · exact w_tsIn C dL_law_45 (by omega) (by omega) rfl rfl (k_turnsOfW hl C hX hbl hbA had hL hI hn hR hM hi hroom kk)
    · exact w_tsIn C dL_law_45 (by omega) (by omega) rfl rfl (k_pieceAtW hl C hX hbl hbA had hL hI hn hR hM hi hroom kk)
    · exact w_tsIn C dL_law_45 (by omega) (by omega) rfl rfl (k_pieceByPiecesW hl C hX hbl hbA had hL hI hn hR hM hi hroom kk)
    · exact w_tsIn C dL_law_45 (by omega) (by omega) rfl rfl (k_lengthW hl C hX hbl hbA had hL hI hn hR hM hi hroom kk)
    · exact w_tsIn C dL_law_45 (by omega) (by omega) rfl rfl (k_usedW hl C hX hbl hbA had hL hI hn hR hM hi hroom kk)
    · exact w_tsIn C dL_law_45 (by omega) (by omega) rfl rfl (k_phaseW hl C hX hbl hbA had hL hI hn hR hM hi hroom kk)
    · exact w_tsIn C dL_law_45 (by omega) (by omega) rfl rfl (k_addStyleW hl C hX hbl hbA had hL hI hn hR hM hi hroom kk)
    · exact w_tsIn C dL_law_45 (by omega) (by omega) rfl rfl (k_addPartW hl C hX hbl hbA had hL hI hn hR hM hi hroom kk)
    · exact w_tsIn C dL_law_45 (by omega) (by omega) rfl rfl (k_piecesForW hl C hX hbl hbA had hL hI hn hR hM hi hroom kk)
    · exact w_tsIn C dL_law_45 (by omega) (by omega) rfl rfl (k_nestedLengthW hl C hX hbl hbA had hL hI hn hR hM hi hroom kk)
    · exact w_tsIn C dL_law_45 (by omega) (by omega) rfl rfl (k_nestedByTryingW hl C hX hbl hbA had hL hI hn hR hM hi hroom kk)
    · exact w_tsIn C dL_law_45 (by omega) (by omega) rfl rfl (k_addClothW hl C hX hbl hbA had hL hI hn hR hM hi hroom kk)
    · exact w_tsIn C dL_law_45 (by omega) (by omega) rfl rfl (k_rollW hl C hX hbl hbA had hL hI hn hR hM hi hroom kk)
    · exact w_tsIn C dL_law_45 (by omega) (by omega) rfl rfl (k_spreadW hl C hX hbl hbA had hL hI hn hR hM hi hroom kk)
    · exact w_tsIn C dL_law_45 (by omega) (by omega) rfl rfl (k_piecesW hl C hX hbl hbA had hL hI hn hR hM hi hroom kk)
    · exact w_tsIn C dL_law_45 (by omega) (by omega) rfl rfl (k_canMakeW hl C hX hbl hbA had hL hI hn hR hM hi hroom kk)
    · exact w_tsIn C dL_law_45 (by omega) (by omega) rfl rfl (k_canMakeByTakingW hl C hX hbl hbA had hL hI hn hR hM hi hroom kk)
    · exact w_tsIn C dL_law_45 (by omega) (by omega) rfl rfl (k_makeW hl C hX hbl hbA had hL hI hn hR hM hi hroom kk)
    · exact w_tsIn C dL_law_45 (by omega) (by omega) rfl rfl (k_madeW hl C hX hbl hbA had hL hI hn hR hM hi hroom kk)
    · exact w_tsIn C dL_law_45 (by omega) (by omega) rfl rfl (k_pliesForW hl C hX hbl hbA had hL hI hn hR hM hi hroom kk)
    · exact w_tsIn C dL_law_45 (by omega) (by omega) rfl rfl (k_cutW hl C hX hbl hbA had hL hI hn hR hM hi hroom kk)
    · exact w_tsIn C dL_law_45 (by omega) (by omega) rfl rfl (k_densityW hl C hX hbl hbA had hL hI hn hR hM hi hroom kk)
    · exact w_tsIn C dL_law_45 (by omega) (by omega) rfl rfl (k_meanCellsW hl C hX hbl hbA had hL hI hn hR hM hi hroom kk)
    · exact w_tsIn C dL_law_45 (by omega) (by omega) rfl rfl (k_isSoundW hl C hX hbl hbA had hL hI hn hR hM hi hroom kk)
  · exact w_tsOut C dL_law_45 (by omega) (Or.inr (by omega)) rfl (kk _ _ _ _ _ _ _ (by omega) (by omega) hI.up hR hM had)
theorem lw_loop (hl : l.stackTraces = false) (C : Cx l p s m args meth c cL_law RL 9 D cA b0 tab) {b L : Nat} {xs : Nat → Int32} (hX : va_X b L xs s s.heap) (hbl : b < s.heap.size) (hbA : ¬ b0 b) (hL : L ≤ 3072) {c0 s0 : Nat} (hroom : 40 ≤ R.frames ∧ 4000 ≤ R.locals ∧ c0 + 520000 ≤ R.cells ∧ s0 + 6240000 ≤ R.slots)
    (kend : ∀ (c2 s2 : Nat) (S : Sg) (ad : Ads) (M : Mem) (i : Int), c2 ≤ c0 + 520000 → s2 ≤ s0 + 6240000 → Wm p l e R s m args below meth c 9 D cA b0 c2 s2 Q 2551 (lvL i) [] ad (cnB (nsS S) (ntS S)) M) :
    ∀ (f n : Nat), L < 6 * (n + f) + 6 → n + f ≤ 513 → ∀ (cells slots : Nat) (S : Sg) (P : List Pc) (nx : Nat) (ad : Ads) (M : Mem), ad 99 0 = b → LI S P nx n → RepRoom S P nx M → RepMo S P nx M → cells ≤ c0 + 1000 * n → slots ≤ s0 + 12000 * n →
      Wm p l e R s m args below meth c 9 D cA b0 cells slots Q 28 (lvL ((6 * n : Nat) : Int)) [] ad (cnB (nsS S) (ntS S)) M := by
  intro f
  induction f with
  | zero =>
    intro n h1 h2 cells slots S P nx ad M had hI hR hM hc hs
    refine w_iload C dL_law_28 rfl ?_
    refine w_aload_n C dL_law_30 rfl ?_
    refine w_slen C hX hbl hbA had dL_law_31 ?_
    refine w_bipush (v := 6) C dL_law_32 rfl ?_
    refine w_isub C dL_law_34 ?_
    exact w_icmp_gt_y C dL_law_35 (by omega) (by omega) (by omega) (kend _ _ _ _ _ _ (by omega) (by omega))
  | succ f ih =>
    intro n h1 h2 cells slots S P nx ad M had hI hR hM hc hs
    refine w_iload C dL_law_28 rfl ?_
    refine w_aload_n C dL_law_30 rfl ?_
    refine w_slen C hX hbl hbA had dL_law_31 ?_
    refine w_bipush (v := 6) C dL_law_32 rfl ?_
    refine w_isub C dL_law_34 ?_
    refine w_icmp_gt C dL_law_35 (by omega) (by omega) (fun h => kend _ _ _ _ _ _ (by omega) (by omega)) (fun h => ?_)
    refine w_aload_n C dL_law_38 rfl ?_
    refine w_iload C dL_law_39 rfl ?_
    refine w_sld C hX hbl hbA had dL_law_41 (by omega) (by omega) ?_
    refine w_bipush (v := 63) C dL_law_42 rfl ?_
    refine w_iand63 C dL_law_44 (fun z hz => ?_)
    refine lw_disp hl C hX hbl hbA had (by omega) hI (by omega) hR hM (by omega) ⟨by omega, by omega, by omega, by omega⟩ hz ?_
    intro c2 s2 S2 P2 nx2 ad2 M2 k1 k2 k3 k4 k5 k6
    refine w_iinc C dL_law_2545 rfl (by decide) ?_
    refine w_goto C dL_law_2548 ?_
    have q1 : c2 ≤ c0 + 1000 * (n + 1) := Nat.le_trans k1 (Nat.le_trans (Nat.add_le_add_right hc 1000) (Nat.le_of_eq (by rw [Nat.mul_succ, Nat.add_assoc])))
    have q2 : s2 ≤ s0 + 12000 * (n + 1) := Nat.le_trans k2 (Nat.le_trans (Nat.add_le_add_right hs 12000) (Nat.le_of_eq (by rw [Nat.mul_succ, Nat.add_assoc])))
    have k9 := ih (n + 1) (by omega) (by omega) c2 s2 S2 P2 nx2 ad2 M2 k6 k3 k4 k5 q1 q2
    have e : ((6 * (n + 1) : Nat) : Int) = ((6 * n : Nat) : Int) + 6 := by omega
    rw [e] at k9
    exact Wm.lsub (lv' := lvL (((6 * n : Nat) : Int) + 6)) ⟨rfl, rfl, rfl, rfl, rfl, rfl, trivial⟩ k9
end Cs
