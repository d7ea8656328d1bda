/-! the room: density, meanCells, canMakeByTaking, make -/
theorem mk_ns {S : Sg} {y g : Nat} : nsS (mkS S y g) = nsS S := mk_ag (by decide) (by decide)
theorem RepRoom.mkk {S : Sg} {P : List Pc} {nx y g : Nat} {M M' : Mem} (hI : Inv S P nx) (hZ : InvZ S) (hy : y < 4) (hok : okT S y g (nsS S)) (hR : RepRoom S P nx M) (hF : Fr (fun k i => k = 4 ∨ k = 6 ∧ i = y) M M')
    (h8 : ∀ j, j < nsS S → M'.1 4 j 8 = stS (mkS S y g) j 0 ∧ M'.1 4 j 9 = stS (mkS S y g) j 1) (h4 : ∀ j s, s ≠ 8 → s ≠ 9 → M'.1 4 j s = M.1 4 j s) (h4L : ∀ j, M'.2.2.1 4 j = M.2.2.1 4 j) (h6 : M'.1 6 y 1 = (mdS S y + g : Nat)) : RepRoom (mkS S y g) P nx M' := by
  obtain ⟨hC, hSh, hM, hSt, hRm, hTr⟩ := hR
  have n0 : ∀ {k i : Nat}, k ≠ 4 → k ≠ 6 → ¬ (k = 4 ∨ k = 6 ∧ i = y) := fun h1 h2 q => by
    rcases q with q | q
    · exact h1 q
    · exact h2 q.1
  have ag : ∀ f i q, f ≠ 14 → f ≠ 17 → mkS S y g f i q = S f i q := fun f i q h1 h2 => mk_ag h1 h2
  have e : mkS S y g = fun f i q => if f = 14 ∨ f = 17 then mkS S y g f i q else S f i q := by
    funext f i q
    split
    · rfl
    · rename_i h9
      exact ag f i q (fun z => h9 (Or.inl z)) (fun z => h9 (Or.inr z))
  refine ⟨?_, fun j hj => ?_, ?_, fun y' hy' => ⟨fun j hj => ?_, ?_⟩, ?_, TrOK.fr hF (n0 (by decide) (by decide)) hTr⟩
  · have := RepCl.fr hF (n0 (by decide) (by decide)) (n0 (by decide) (by decide)) (n0 (by decide) (by decide)) hC
    rw [e]
    exact this
  · rw [mk_ns] at hj
    obtain ⟨s1, s2, s3⟩ := hSh j hj
    refine ⟨?_, ⟨(h8 j hj).1, (h8 j hj).2, ?_⟩, fun o ho => ⟨?_, ?_⟩⟩
    · obtain ⟨a1, a2, a3, a4, a5, a6, a7, a8⟩ := s1
      have : RepS1 S j M' := ⟨(h4 j 0 (by decide) (by decide)).trans a1, (h4 j 1 (by decide) (by decide)).trans a2, (h4 j 4 (by decide) (by decide)).trans a3, (h4 j 5 (by decide) (by decide)).trans a4, (h4 j 6 (by decide) (by decide)).trans a5, (h4 j 7 (by decide) (by decide)).trans a6, fun r hr => by rw [(hF 30 j (n0 (by decide) (by decide))).1]; exact a7 r hr, a8⟩
      rw [e]
      exact this
    · rw [h4L, eS_mk hZ hy hok]
      exact s2.2.2
    · rw [(hF 13 j (n0 (by decide) (by decide))).2.1]
      exact (s3 o ho).1
    · have := (s3 o ho).2.fr hF (n0 (by decide) (by decide)) (n0 (by decide) (by decide))
      rw [e]
      exact this
  · refine RepMk.cg (S := S) (fun p _ => ⟨?_, ag 11 _ 0 (by decide) (by decide), ag 12 _ 0 (by decide) (by decide), ag 13 _ 0 (by decide) (by decide)⟩) (fun _ => ag 3 0 0 (by decide) (by decide)) (RepMk.fr hI.2.2.1 hF ⟨n0 (by decide) (by decide), n0 (by decide) (by decide), n0 (by decide) (by decide), n0 (by decide) (by decide), n0 (by decide) (by decide), n0 (by decide) (by decide)⟩ (fun _ _ => n0 (by decide) (by decide)) hM)
    funext k
    unfold dB
    rw [show drS (mkS S y g) (pShp p) k = drS S (pShp p) k from ag 9 _ k (by decide) (by decide)]
  · rw [(hF 32 y' (n0 (by decide) (by decide))).1, show ctS (mkS S y g) y' j = ctS S y' j from ag 16 y' j (by decide) (by decide)]
    exact (hSt y' (by rw [show ntS (mkS S y g) = ntS S from ag 15 0 0 (by decide) (by decide)] at hy'; exact hy')).1 j hj
  · rw [mk_md]
    by_cases hyy : y' = y
    · subst hyy
      rw [if_pos rfl]
      exact h6
    · rw [if_neg hyy, Nat.add_zero, (hF 6 y' (fun q => by rcases q with q | q; exact absurd q (by decide); exact hyy q.2)).1]
      exact (hSt y' (by rw [show ntS (mkS S y g) = ntS S from ag 15 0 0 (by decide) (by decide)] at hy'; exact hy')).2
  · have := RepRm.fr hF (n0 (by decide) (by decide)) (n0 (by decide) (by decide)) (n0 (by decide) (by decide)) hRm
    rw [e]
    exact this
section Rm
variable {l : Launch} {b0 : Nat → Prop} {ad : Ads} {ns nt : Nat} {M : Mem}
theorem c_X6_density (hl : l.stackTraces = false) {S : Sg} {P : List Pc} {nx : Nat} (hI : Inv S P nx) (hC : InvC S) (hns : nsS S ≤ ns) (hR : RepRoom S P nx M) : Con l b0 yX6_density cX6_density 2 (some .float) 9 1 6 [aO 0 0] ad (cnt ns nt) M (fun r9 M' => M' = M ∧ P.length ≠ 0 ∧ r9 = some (aF (dnF (usedS S P) (lenR S P * colsS S)))) (fun E9 M' => E9 = eAR ∧ M' = M ∧ P.length = 0) := by
  obtain ⟨hCl, hSh, ⟨f, hM⟩, hSt, hRm, hTr⟩ := hR
  have hP := hI.2.2.1
  have hu := used_le (S := S) hI.1 hP
  have har := area_bd (P := P) hI.1
  have hcp := cols_pos hI.1
  have hlp : P.length = 0 → lenR S P = 0 := fun z => by
    rw [List.length_eq_zero_iff.mp z]
    rfl
  have hlq : P.length ≠ 0 → 0 < lenR S P * colsS S := fun z => Nat.mul_pos (len_pos hI hC (fun y => z (by rw [y]; rfl))) hcp
  refine Con.of hl pl_X6 (Nat.le_of_ble_eq_true rfl) ?_
  intro D cA p e s m args below meth c C hr
  refine w_aload_n C dX6_density_0 rfl ?_
  refine g_X6_19 C dX6_density_1 (by first | assumption | exact Nat.zero_lt_one | exact Nat.zero_lt_two | exact Nat.one_lt_two) ?_
  refine w_callV C dX6_density_4 (c_X1_rowsUsed hl (show inD (cnt ns nt) 2 0 from Nat.zero_lt_two) hM) mX1_rowsUsed vX1_rowsUsed lk_X6_219 (by first | assumption | exact Nat.zero_lt_one | exact Nat.zero_lt_two | exact Nat.one_lt_two) rfl rfl rfl rfl ⟨by decide, by decide, by decide, by decide⟩ (Nat.le_of_ble_eq_true rfl) (fun _ _ h => h.elim) ⟨by decide, by decide⟩ (fun r_ M_ q4 => ?_)
  obtain ⟨rfl, rfl⟩ := q4
  refine w_aload_n C dX6_density_7 rfl ?_
  refine g_X6_12 C dX6_density_8 (by first | assumption | exact Nat.zero_lt_one | exact Nat.zero_lt_two | exact Nat.one_lt_two) ?_
  refine w_callV C dX6_density_11 (c_X0_openColumns hl hI.1 hCl.1) mX0_openColumns vX0_openColumns lk_X6_436 (by first | assumption | exact Nat.zero_lt_one | exact Nat.zero_lt_two | exact Nat.one_lt_two) rfl rfl rfl rfl ⟨by decide, by decide, by decide, by decide⟩ (Nat.le_of_ble_eq_true rfl) (fun _ _ h => h.elim) ⟨by decide, by decide⟩ (fun r_ M_ q11 => ?_)
  obtain ⟨rfl, rfl⟩ := q11
  refine w_imul C dX6_density_14 ?_
  refine Wm.top (v' := aI ((lenR S P * colsS S : Nat) : Int)) (congrArg aI (Int.natCast_mul _ _).symm) ?_
  refine w_istore_n C dX6_density_15 (by decide) ?_
  refine w_iload_n C dX6_density_16 rfl ?_
  refine w_if_gt C dX6_density_17 (by omega) (fun h17 => ?_) (fun h17 => ?_)
  · have hp0 : P.length ≠ 0 := (fun z => by rw [hlp z, Nat.zero_mul] at h17; omega)
    refine w_aload_n C dX6_density_31 rfl ?_
    refine g_X6_19 C dX6_density_32 (by first | assumption | exact Nat.zero_lt_one | exact Nat.zero_lt_two | exact Nat.one_lt_two) ?_
    refine w_callV C dX6_density_35 (c_X1_cellsUsed hl hI.1 (show inD (cnt ns nt) 2 0 from Nat.zero_lt_two) hP hM hI.2.1 hSh hns) mX1_cellsUsed vX1_cellsUsed lk_X6_253 (by first | assumption | exact Nat.zero_lt_one | exact Nat.zero_lt_two | exact Nat.one_lt_two) rfl rfl rfl rfl ⟨by decide, by decide, by decide, by decide⟩ (Nat.le_of_ble_eq_true rfl) (fun _ _ h => h.elim) ⟨by decide, by decide⟩ (fun r_ M_ q35 => ?_)
    obtain ⟨rfl, rfl⟩ := q35
    refine w_i2f C dX6_density_38 ?_
    refine w_iload_n C dX6_density_39 rfl ?_
    refine w_i2f C dX6_density_40 ?_
    refine w_fdiv C dX6_density_41 (dnF_no hu (by omega) (by omega)) ?_
    refine w_fret C hr dX6_density_42 (⟨rfl, hp0, rfl⟩) (by decide) (by decide)
  · refine w_throwW C tk_439_441 ts_364 dX6_density_20 dX6_density_23 dX6_density_24 dX6_density_27 dX6_density_30 ⟨by decide, by decide, by decide, by decide⟩ (Nat.le_of_ble_eq_true rfl) (⟨rfl, rfl, Decidable.byContradiction fun z => by have := hlq z; omega⟩) (by decide) (by decide)
theorem c_X6_meanCells (hl : l.stackTraces = false) {S : Sg} {P : List Pc} {nx : Nat} (hI : Inv S P nx) (hns : nsS S ≤ ns) (hR : RepRoom S P nx M) : Con l b0 yX6_meanCells cX6_meanCells 2 (some .double) 9 1 6 [aO 0 0] ad (cnt ns nt) M (fun r9 M' => M' = M ∧ P.length ≠ 0 ∧ r9 = some (aD (mnD (usedS S P) P.length))) (fun E9 M' => E9 = eAR ∧ M' = M ∧ P.length = 0) := by
  obtain ⟨hCl, hSh, ⟨f, hM⟩, hSt, hRm, hTr⟩ := hR
  have hP := hI.2.2.1
  have hu := used_le (S := S) hI.1 hP
  have a1 := hM.1
  refine Con.of hl pl_X6 (Nat.le_of_ble_eq_true rfl) ?_
  intro D cA p e s m args below meth c C hr
  refine w_aload_n C dX6_meanCells_0 rfl ?_
  refine g_X6_19 C dX6_meanCells_1 (by first | assumption | exact Nat.zero_lt_one | exact Nat.zero_lt_two | exact Nat.one_lt_two) ?_
  refine g_X6_59 C dX6_meanCells_4 (by first | assumption | exact Nat.zero_lt_one | exact Nat.zero_lt_two | exact Nat.one_lt_two) ?_
  rw [a1]
  refine w_istore_n C dX6_meanCells_7 (by decide) ?_
  refine w_iload_n C dX6_meanCells_8 rfl ?_
  refine w_if_gt C dX6_meanCells_9 (by omega) (fun h9 => ?_) (fun h9 => ?_)
  · refine w_aload_n C dX6_meanCells_23 rfl ?_
    refine g_X6_19 C dX6_meanCells_24 (by first | assumption | exact Nat.zero_lt_one | exact Nat.zero_lt_two | exact Nat.one_lt_two) ?_
    refine w_callV C dX6_meanCells_27 (c_X1_cellsUsed hl hI.1 (show inD (cnt ns nt) 2 0 from Nat.zero_lt_two) hP hM hI.2.1 hSh hns) mX1_cellsUsed vX1_cellsUsed lk_X6_253 (by first | assumption | exact Nat.zero_lt_one | exact Nat.zero_lt_two | exact Nat.one_lt_two) rfl rfl rfl rfl ⟨by decide, by decide, by decide, by decide⟩ (Nat.le_of_ble_eq_true rfl) (fun _ _ h => h.elim) ⟨by decide, by decide⟩ (fun r_ M_ q27 => ?_)
    obtain ⟨rfl, rfl⟩ := q27
    refine w_i2d C dX6_meanCells_30 ?_
    refine w_iload_n C dX6_meanCells_31 rfl ?_
    refine w_i2d C dX6_meanCells_32 ?_
    refine w_ddiv C dX6_meanCells_33 (mnD_no hu (by omega) (by omega)) ?_
    refine w_dret C hr dX6_meanCells_34 (⟨rfl, by omega, rfl⟩) (by decide) (by decide)
  · refine w_throwW C tk_439_441 ts_364 dX6_meanCells_12 dX6_meanCells_15 dX6_meanCells_16 dX6_meanCells_19 dX6_meanCells_22 ⟨by decide, by decide, by decide, by decide⟩ (Nat.le_of_ble_eq_true rfl) (⟨rfl, rfl, by omega⟩) (by decide) (by decide)
theorem c_X6_canMakeByTaking (hl : l.stackTraces = false) {S : Sg} {P : List Pc} {nx : Nat} (hI : Inv S P nx) (hZ : InvZ S) (hns : nsS S ≤ ns) (hnt : ntS S ≤ nt) (hR : RepRoom S P nx M) (a : Int) (ha : -2147483648 ≤ a ∧ a ≤ 2147483647) : Con l b0 yX6_canMakeByTaking cX6_canMakeByTaking 5 (some .int) 11 2 12 [aO 0 0, aI a] ad (cnt ns nt) M (okR (oCanMake a S P nx)) (exR (oCanMake a S P nx) [eIO, eUO]) := by
  have hR' := hR
  obtain ⟨hCl, hSh, hM, hSt, hRm, hTr⟩ := hR'
  have hct : ∀ y j, nsS S ≤ j → ctS S y j = 0 := fun y j h => (hZ.1 j h).2.2.2.2.2.2.2.2.2 y
  have g6 := hI.1.2.2.2.2.2.1
  have i29 : inD (cnt ns nt) 29 0 := Nat.zero_lt_one
  have n0 : ∀ {k i : Nat}, k ≠ 29 → ¬ (k = 29 ∧ i = 0) := fun h q => h q.1
  have fR : ∀ M1, Fr (fun k i => k = 29 ∧ i = 0) M M1 → RepRoom S P nx M1 := fun M1 hF => ⟨RepCl.fr hF (n0 (by decide)) (n0 (by decide)) (n0 (by decide)) hCl, RepSh.fr hF (fun i => ⟨n0 (by decide), n0 (by decide), n0 (by decide), n0 (by decide), n0 (by decide)⟩) hSh, RepMk.fr hI.2.2.1 hF ⟨n0 (by decide), n0 (by decide), n0 (by decide), n0 (by decide), n0 (by decide), n0 (by decide)⟩ (fun _ _ => n0 (by decide)) hM, RepSt.fr hF (fun i => ⟨n0 (by decide), n0 (by decide)⟩) hSt, RepRm.fr hF (n0 (by decide)) (n0 (by decide)) (n0 (by decide)) hRm, TrOK.fr hF (n0 (by decide)) hTr⟩
  refine Con.of hl pl_X6 (Nat.le_of_ble_eq_true rfl) ?_
  intro D cA p e s m args below meth c C hr
  have X0 : ∀ (E9 : String) (M9 : Mem), (M9 = M ∧ (E9 = eIO ∧ ¬ (0 ≤ a ∧ a < ntS S) ∨ E9 = eUO ∧ (0 ≤ a ∧ a < ntS S) ∧ takS S a.toNat = 0)) → exR (oCanMake a S P nx) [eIO, eUO] E9 M9 := fun E9 M9 h9 => by
    obtain ⟨rfl, ⟨rfl, h9⟩ | ⟨rfl, h9, h8⟩⟩ := h9
    · exact exR_of (i := 0) (by unfold oCanMake; rw [if_pos h9]) rfl hR
    · exact exR_of (i := 1) (by unfold oCanMake; rw [if_neg (fun q => q h9), if_pos h8]) rfl hR
  have L2 : (0 ≤ a ∧ a < ntS S) → takS S a.toNat ≠ 0 → ∀ (d g : Nat) (M1 : Mem), g + d = 9999 → Fr (fun k i => k = 29 ∧ i = 0) M M1 → (∀ k, k < 16 → M1.1 29 0 k = tkU S a.toNat g 0 k) → okT S a.toNat g (nsS S) → Wm p l e (rmd 11 2 12) s m args below meth c 5 D cA b0 2 12 (vx_MQ below (mQ D cA b0 ad (cnt ns nt) (okR (oCanMake a S P nx))) (mX D cA b0 ad (cnt ns nt) (exR (oCanMake a S P nx) [eIO, eUO])) args s 2 12 b0) 81 [(0, aO 0 0), (2, aO 6 a.toNat), (3, aI g)] [] ad (cnt ns nt) M1 := by
    intro hj ht d
    have i6 : inD (cnt ns nt) 6 a.toNat := by
      show a.toNat < nt
      omega
    induction d with
    | zero =>
      intro g M1 hg hF hU hok
      have hgi := (giN_iff (nsS S)).mpr ⟨show g ≤ 9999 by omega, hok⟩
      have hgl := giN_le S a.toNat (nsS S)
      refine w_iload_n C dX6_canMakeByTaking_81 rfl ?_
      refine w_sipush (v := 9999) C dX6_canMakeByTaking_82 rfl ?_
      refine w_icmp_ge C dX6_canMakeByTaking_85 (by omega) (by omega) (fun h85 => ?_) (fun h85 => ?_)
      · refine w_iload_n C dX6_canMakeByTaking_102 rfl ?_
        refine w_iret C hr dX6_canMakeByTaking_103 rfl (okR_of (v := (g : Int)) (S' := S) (P' := P) (nx' := nx) (by unfold oCanMake; rw [if_neg (fun q => q hj), if_neg ht, show giN S a.toNat (nsS S) = g by omega]) rfl (fR M1 hF)) (by decide) (by decide)
      · omega
    | succ d ih =>
      intro g M1 hg hF hU hok
      have hgi := (giN_iff (nsS S)).mpr ⟨show g ≤ 9999 by omega, hok⟩
      obtain ⟨hCl1, hSh1, hM1, hSt1, hRm1, hTr1⟩ := fR M1 hF
      refine w_iload_n C dX6_canMakeByTaking_81 rfl ?_
      refine w_sipush (v := 9999) C dX6_canMakeByTaking_82 rfl ?_
      refine w_icmp_ge C dX6_canMakeByTaking_85 (by omega) (by omega) (fun h85 => ?_) (fun h85 => ?_)
      · omega
      · refine w_aload_n C dX6_canMakeByTaking_88 rfl ?_
        refine w_aload_n C dX6_canMakeByTaking_89 rfl ?_
        refine w_callV C dX6_canMakeByTaking_90 (c_X6_takesGarment hl hI.1 hRm1 hSh1 hns i6 (hSt1 a.toNat (by omega)).1 g (by omega) hU) mX6_takesGarment vX6_takesGarment lk_X6_403 (by first | assumption | exact Nat.zero_lt_one | exact Nat.zero_lt_two | exact Nat.one_lt_two) rfl rfl rfl rfl ⟨by decide, by decide, by decide, by decide⟩ (Nat.le_of_ble_eq_true rfl) (fun _ _ h => h.elim) ⟨by decide, by decide⟩ (fun r_ M2 q90 => ?_)
        obtain ⟨k1, z, rfl, hz, hzi, hzU⟩ := q90
        refine w_if_eq C dX6_canMakeByTaking_93 (by omega) (fun h93 => ?_) (fun h93 => ?_)
        · refine w_iload_n C dX6_canMakeByTaking_102 rfl ?_
          refine w_iret C hr dX6_canMakeByTaking_103 rfl (okR_of (v := (g : Int)) (S' := S) (P' := P) (nx' := nx) (by unfold oCanMake; rw [if_neg (fun q => q hj), if_neg ht, show giN S a.toNat (nsS S) = g by (refine Nat.le_antisymm ?_ hgi; refine Nat.le_of_lt_succ (Nat.not_le.mp fun q => ?_); have := hzi.mpr ((giN_iff (nsS S)).mp q).2; omega)]) rfl (fR M2 (hF.tr k1))) (by decide) (by decide)
        · refine w_iinc C dX6_canMakeByTaking_96 rfl (by decide) ?_
          refine w_goto C dX6_canMakeByTaking_99 ?_
          exact Wm.lsub (lv' := [(0, aO 0 0), (2, aO 6 a.toNat), (3, aI ((g + 1 : Nat) : Int))]) ⟨rfl, rfl, rfl, trivial⟩ (ih (g + 1) M2 (by omega) (hF.tr k1) (hzU (by omega)) (hzi.mp (by omega)))
  have L1 : (0 ≤ a ∧ a < ntS S) → takS S a.toNat ≠ 0 → ∀ (d n : Nat) (M1 : Mem), n + d = 8 → Fr (fun k i => k = 29 ∧ i = 0) M M1 → (∀ k, k < 2 * n → M1.1 29 0 k = tkU S a.toNat 0 0 k) → Wm p l e (rmd 11 2 12) s m args below meth c 5 D cA b0 2 12 (vx_MQ below (mQ D cA b0 ad (cnt ns nt) (okR (oCanMake a S P nx))) (mX D cA b0 ad (cnt ns nt) (exR (oCanMake a S P nx) [eIO, eUO])) args s 2 12 b0) 8 [(0, aO 0 0), (2, aO 6 a.toNat), (3, aI n)] [] ad (cnt ns nt) M1 := by
    intro hj ht d
    induction d with
    | zero =>
      intro n M1 hn hF hU
      refine w_iload_n C dX6_canMakeByTaking_8 rfl ?_
      refine w_bipush (v := 8) C dX6_canMakeByTaking_9 rfl ?_
      refine w_icmp_ge C dX6_canMakeByTaking_11 (by omega) (by omega) (fun h11 => ?_) (fun h11 => ?_)
      · refine w_iconst C dX6_canMakeByTaking_79 ?_
        refine w_istore_n C dX6_canMakeByTaking_80 (by decide) ?_
        exact Wm.lsub (lv' := [(0, aO 0 0), (2, aO 6 a.toNat), (3, aI ((0 : Nat) : Int))]) ⟨rfl, rfl, rfl, trivial⟩ (L2 hj ht 9999 0 M1 (by omega) hF (fun k hk => hU k (by omega)) (fun j hj => by rw [Nat.zero_mul]; exact ⟨Nat.zero_le _, fun _ => Nat.zero_le _⟩))
      · omega
    | succ d ih =>
      intro n M1 hn hF hU
      obtain ⟨hCl1, hSh1, hM1, hSt1, hRm1, hTr1⟩ := fR M1 hF
      have K73 : ∀ x y : Int, x = tkU S a.toNat 0 0 (2 * n) → y = tkU S a.toNat 0 0 (2 * n + 1) → Wm p l e (rmd 11 2 12) s m args below meth c 5 D cA b0 2 12 (vx_MQ below (mQ D cA b0 ad (cnt ns nt) (okR (oCanMake a S P nx))) (mX D cA b0 ad (cnt ns nt) (exR (oCanMake a S P nx) [eIO, eUO])) args s 2 12 b0) 73 [(0, aO 0 0), (2, aO 6 a.toNat), (3, aI n)] [] ad (cnt ns nt) (uI (uI M1 29 0 (2 * n) x) 29 0 (2 * n + 1) y) := by
        intro x y hx hy
        refine w_iinc C dX6_canMakeByTaking_73 rfl (by decide) ?_
        refine w_goto C dX6_canMakeByTaking_76 ?_
        refine Wm.lsub (lv' := [(0, aO 0 0), (2, aO 6 a.toNat), (3, aI ((n + 1 : Nat) : Int))]) ⟨rfl, rfl, rfl, trivial⟩ (ih (n + 1) _ (by omega) ((hF.uI ⟨rfl, rfl⟩).uI ⟨rfl, rfl⟩) (fun k hk => ?_))
        by_cases h1 : k = 2 * n + 1
        · rw [h1, uI_eq, hy]
        · by_cases h2 : k = 2 * n
          · rw [h2, uI_ne (by omega), uI_eq, hx]
          · rw [uI_ne (by omega), uI_ne (by omega)]
            exact hU k (by omega)
      by_cases hjn : n < nsS S
      · have i4 : inD (cnt ns nt) 4 n := by
          show n < ns
          omega
        have s8 := (hSh1 n hjn).2.1.1
        have s9 := (hSh1 n hjn).2.1.2.1
        have e0 : (stS S n 0 : Int) = tkU S a.toNat 0 0 (2 * n) := by rw [tkU_ev hjn, if_neg (Nat.not_lt_zero n), Nat.add_zero, Nat.zero_mul]; omega
        have e1 : (stS S n 1 : Int) = tkU S a.toNat 0 0 (2 * n + 1) := by rw [tkU_od hjn, if_neg (Nat.not_lt_zero n), Nat.add_zero, Nat.zero_mul]; omega
        refine w_iload_n C dX6_canMakeByTaking_8 rfl ?_
        refine w_bipush (v := 8) C dX6_canMakeByTaking_9 rfl ?_
        refine w_icmp_ge C dX6_canMakeByTaking_11 (by omega) (by omega) (fun h11 => ?_) (fun h11 => ?_)
        · omega
        · refine w_aload_n C dX6_canMakeByTaking_14 rfl ?_
          refine w_iload_n C dX6_canMakeByTaking_15 rfl ?_
          refine w_callV C dX6_canMakeByTaking_16 (c_X6_shapeNumbered hl hI.1 hRm1 (n : Int) (by omega)) mX6_shapeNumbered vX6_shapeNumbered lk_X6_169 (by first | assumption | exact Nat.zero_lt_one | exact Nat.zero_lt_two | exact Nat.one_lt_two) rfl rfl rfl rfl ⟨by decide, by decide, by decide, by decide⟩ (Nat.le_of_ble_eq_true rfl) (fun _ _ h => h.elim) ⟨by decide, by decide⟩ (fun r_ M_ q16 => ?_)
          obtain ⟨rfl, rfl⟩ := q16
          rw [if_pos (by omega), Int.toNat_natCast]
          refine w_astore C dX6_canMakeByTaking_19 (by decide) ?_
          refine w_aload_n C dX6_canMakeByTaking_21 rfl ?_
          refine g_X6_45 C dX6_canMakeByTaking_22 (by first | assumption | exact Nat.zero_lt_one | exact Nat.zero_lt_two | exact Nat.one_lt_two) ?_
          refine w_iload_n C dX6_canMakeByTaking_25 rfl ?_
          refine w_iconst C dX6_canMakeByTaking_26 ?_
          refine w_callS C dX6_canMakeByTaking_27 (c_X6_kindOf hl (n : Int) 0 (Or.inl rfl)) mX6_kindOf sX6_kindOf lk_X6_340 rfl rfl ⟨by decide, by decide, by decide, by decide⟩ (Nat.le_of_ble_eq_true rfl) (fun _ _ h => h.elim) ⟨by decide, by decide⟩ (fun r_ M_ q27 => ?_)
          obtain ⟨rfl, rfl⟩ := q27
          refine Wm.top (v' := aI ((2 * n : Nat) : Int)) (congrArg aI (by omega)) ?_
          refine w_aload C dX6_canMakeByTaking_30 rfl ?_
          refine w_ifnonnull C dX6_canMakeByTaking_32 (fun h32 => ?_) (fun h32 => ?_)
          · refine w_aload C dX6_canMakeByTaking_39 rfl ?_
            refine Wm.top (v' := aO 4 n) rfl ?_
            refine g_X6_376 C dX6_canMakeByTaking_41 i4 ?_
            rw [s8]
            refine w_callS C dX6_canMakeByTaking_44 (c_X6_store hl IA_29 i29 ((2 * n : Nat) : Int) (stS S n 0 : Int) (by omega)) mX6_store sX6_store lk_X6_293 rfl rfl ⟨by decide, by decide, by decide, by decide⟩ (Nat.le_of_ble_eq_true rfl) (fun _ _ h => h.elim) ⟨by decide, by decide⟩ (fun r_ M2 q44 => ?_)
            obtain ⟨q44, rfl⟩ := q44
            rw [wr_ok (by omega)] at q44
            subst q44
            refine w_aload_n C dX6_canMakeByTaking_47 rfl ?_
            refine g_X6_45 C dX6_canMakeByTaking_48 (by first | assumption | exact Nat.zero_lt_one | exact Nat.zero_lt_two | exact Nat.one_lt_two) ?_
            refine w_iload_n C dX6_canMakeByTaking_51 rfl ?_
            refine w_iconst C dX6_canMakeByTaking_52 ?_
            refine w_callS C dX6_canMakeByTaking_53 (c_X6_kindOf hl (n : Int) 1 (Or.inr rfl)) mX6_kindOf sX6_kindOf lk_X6_340 rfl rfl ⟨by decide, by decide, by decide, by decide⟩ (Nat.le_of_ble_eq_true rfl) (fun _ _ h => h.elim) ⟨by decide, by decide⟩ (fun r_ M_ q53 => ?_)
            obtain ⟨e53, rfl⟩ := q53
            subst e53
            refine Wm.top (v' := aI ((2 * n + 1 : Nat) : Int)) (congrArg aI (by omega)) ?_
            refine w_aload C dX6_canMakeByTaking_56 rfl ?_
            refine w_ifnonnull C dX6_canMakeByTaking_58 (fun h58 => ?_) (fun h58 => ?_)
            · refine w_aload C dX6_canMakeByTaking_65 rfl ?_
              refine Wm.top (v' := aO 4 n) rfl ?_
              refine g_X6_383 C dX6_canMakeByTaking_67 i4 ?_
              rw [uI_ne (by omega), s9]
              refine w_callS C dX6_canMakeByTaking_70 (c_X6_store hl IA_29 i29 ((2 * n + 1 : Nat) : Int) (stS S n 1 : Int) (by omega)) mX6_store sX6_store lk_X6_293 rfl rfl ⟨by decide, by decide, by decide, by decide⟩ (Nat.le_of_ble_eq_true rfl) (fun _ _ h => h.elim) ⟨by decide, by decide⟩ (fun r_ M3 q70 => ?_)
              obtain ⟨q70, rfl⟩ := q70
              rw [wr_ok (by omega)] at q70
              subst q70
              exact Wm.lsub (lv' := [(0, aO 0 0), (2, aO 6 a.toNat), (3, aI n)]) ⟨rfl, rfl, rfl, trivial⟩ (K73 _ _ e0 e1)
            · cases h58
          · cases h32
      · have e0 : (0 : Int) = tkU S a.toNat 0 0 (2 * n) := by unfold tkU; rw [if_neg (by omega)]
        have e1 : (0 : Int) = tkU S a.toNat 0 0 (2 * n + 1) := by unfold tkU; rw [if_neg (by omega)]
        refine w_iload_n C dX6_canMakeByTaking_8 rfl ?_
        refine w_bipush (v := 8) C dX6_canMakeByTaking_9 rfl ?_
        refine w_icmp_ge C dX6_canMakeByTaking_11 (by omega) (by omega) (fun h11 => ?_) (fun h11 => ?_)
        · omega
        · refine w_aload_n C dX6_canMakeByTaking_14 rfl ?_
          refine w_iload_n C dX6_canMakeByTaking_15 rfl ?_
          refine w_callV C dX6_canMakeByTaking_16 (c_X6_shapeNumbered hl hI.1 hRm1 (n : Int) (by omega)) mX6_shapeNumbered vX6_shapeNumbered lk_X6_169 (by first | assumption | exact Nat.zero_lt_one | exact Nat.zero_lt_two | exact Nat.one_lt_two) rfl rfl rfl rfl ⟨by decide, by decide, by decide, by decide⟩ (Nat.le_of_ble_eq_true rfl) (fun _ _ h => h.elim) ⟨by decide, by decide⟩ (fun r_ M_ q16 => ?_)
          obtain ⟨rfl, rfl⟩ := q16
          rw [if_neg (by omega)]
          refine w_astore C dX6_canMakeByTaking_19 (by decide) ?_
          refine w_aload_n C dX6_canMakeByTaking_21 rfl ?_
          refine g_X6_45 C dX6_canMakeByTaking_22 (by first | assumption | exact Nat.zero_lt_one | exact Nat.zero_lt_two | exact Nat.one_lt_two) ?_
          refine w_iload_n C dX6_canMakeByTaking_25 rfl ?_
          refine w_iconst C dX6_canMakeByTaking_26 ?_
          refine w_callS C dX6_canMakeByTaking_27 (c_X6_kindOf hl (n : Int) 0 (Or.inl rfl)) mX6_kindOf sX6_kindOf lk_X6_340 rfl rfl ⟨by decide, by decide, by decide, by decide⟩ (Nat.le_of_ble_eq_true rfl) (fun _ _ h => h.elim) ⟨by decide, by decide⟩ (fun r_ M_ q27 => ?_)
          obtain ⟨rfl, rfl⟩ := q27
          refine Wm.top (v' := aI ((2 * n : Nat) : Int)) (congrArg aI (by omega)) ?_
          refine w_aload C dX6_canMakeByTaking_30 rfl ?_
          refine w_ifnonnull C dX6_canMakeByTaking_32 (fun h32 => ?_) (fun h32 => ?_)
          · obtain ⟨z, hz⟩ := h32
            cases hz
          · refine w_iconst C dX6_canMakeByTaking_35 ?_
            refine w_goto C dX6_canMakeByTaking_36 ?_
            refine w_callS C dX6_canMakeByTaking_44 (c_X6_store hl IA_29 i29 ((2 * n : Nat) : Int) 0 (by omega)) mX6_store sX6_store lk_X6_293 rfl rfl ⟨by decide, by decide, by decide, by decide⟩ (Nat.le_of_ble_eq_true rfl) (fun _ _ h => h.elim) ⟨by decide, by decide⟩ (fun r_ M2 q44 => ?_)
            obtain ⟨q44, rfl⟩ := q44
            rw [wr_ok (by omega)] at q44
            subst q44
            refine w_aload_n C dX6_canMakeByTaking_47 rfl ?_
            refine g_X6_45 C dX6_canMakeByTaking_48 (by first | assumption | exact Nat.zero_lt_one | exact Nat.zero_lt_two | exact Nat.one_lt_two) ?_
            refine w_iload_n C dX6_canMakeByTaking_51 rfl ?_
            refine w_iconst C dX6_canMakeByTaking_52 ?_
            refine w_callS C dX6_canMakeByTaking_53 (c_X6_kindOf hl (n : Int) 1 (Or.inr rfl)) mX6_kindOf sX6_kindOf lk_X6_340 rfl rfl ⟨by decide, by decide, by decide, by decide⟩ (Nat.le_of_ble_eq_true rfl) (fun _ _ h => h.elim) ⟨by decide, by decide⟩ (fun r_ M_ q53 => ?_)
            obtain ⟨e53, rfl⟩ := q53
            subst e53
            refine Wm.top (v' := aI ((2 * n + 1 : Nat) : Int)) (congrArg aI (by omega)) ?_
            refine w_aload C dX6_canMakeByTaking_56 rfl ?_
            refine w_ifnonnull C dX6_canMakeByTaking_58 (fun h58 => ?_) (fun h58 => ?_)
            · obtain ⟨z, hz⟩ := h58
              cases hz
            · refine w_iconst C dX6_canMakeByTaking_61 ?_
              refine w_goto C dX6_canMakeByTaking_62 ?_
              refine w_callS C dX6_canMakeByTaking_70 (c_X6_store hl IA_29 i29 ((2 * n + 1 : Nat) : Int) 0 (by omega)) mX6_store sX6_store lk_X6_293 rfl rfl ⟨by decide, by decide, by decide, by decide⟩ (Nat.le_of_ble_eq_true rfl) (fun _ _ h => h.elim) ⟨by decide, by decide⟩ (fun r_ M3 q70 => ?_)
              obtain ⟨q70, rfl⟩ := q70
              rw [wr_ok (by omega)] at q70
              subst q70
              exact Wm.lsub (lv' := [(0, aO 0 0), (2, aO 6 a.toNat), (3, aI n)]) ⟨rfl, rfl, rfl, trivial⟩ (K73 _ _ e0 e1)
  refine w_aload_n C dX6_canMakeByTaking_0 rfl ?_
  refine w_iload_n C dX6_canMakeByTaking_1 rfl ?_
  refine w_callV C dX6_canMakeByTaking_2 (c_X6_styleWithPartsOrThrow hl hI.1 hct hnt hSt hRm a ha) mX6_styleWithPartsOrThrow vX6_styleWithPartsOrThrow lk_X6_394 (by first | assumption | exact Nat.zero_lt_one | exact Nat.zero_lt_two | exact Nat.one_lt_two) rfl rfl rfl rfl ⟨by decide, by decide, by decide, by decide⟩ (Nat.le_of_ble_eq_true rfl) X0 ⟨by decide, by decide⟩ (fun r_ M_ q2 => ?_)
  obtain ⟨rfl, ⟨hj, ht⟩, rfl⟩ := q2
  refine w_astore_n C dX6_canMakeByTaking_5 (by decide) ?_
  refine w_iconst C dX6_canMakeByTaking_6 ?_
  refine w_istore_n C dX6_canMakeByTaking_7 (by decide) ?_
  exact Wm.lsub (lv' := [(0, aO 0 0), (2, aO 6 a.toNat), (3, aI ((0 : Nat) : Int))]) ⟨rfl, rfl, rfl, trivial⟩ (L1 hj ht 8 0 _ (by omega) Fr.rf (fun k hk => absurd hk (by omega)))
end Rm
