/-! the room: taking off, and what is read from the marker -/
def oClear (S : Sg) (P : List Pc) (nx : Nat) : Res := (0, (P.length : Int), S, [], 0)
def oInMarker (S : Sg) (P : List Pc) (nx : Nat) : Res := (0, (P.length : Int), S, P, nx)
def oLength (S : Sg) (P : List Pc) (nx : Nat) : Res := (0, (lenR S P : Int), S, P, nx)
def oUsed (S : Sg) (P : List Pc) (nx : Nat) : Res := (0, (usedS S P : Int), S, P, nx)
def phaseS (S : Sg) (P : List Pc) (g : Nat) : Int := match P.find? (fun p => gpS S (pShp p) == g) with
  | some p => remP S p
  | none => 0
def oPhase (a : Int) (S : Sg) (P : List Pc) (nx : Nat) : Res := if ¬ (0 ≤ a ∧ a ≤ 3) then (1, 0, S, P, nx) else if ¬ 2 ≤ srS S ∨ inGr S P (a.toNat + 1) = 0 then (2, 0, S, P, nx) else (0, phaseS S P (a.toNat + 1), S, P, nx)
section Rm
variable {l : Launch} {b0 : Nat → Prop} {ad : Ads} {ns nt : Nat} {M : Mem}
theorem c_X6_pieceOrThrow (hl : l.stackTraces = false) {S : Sg} {P : List Pc} {nx : Nat} {f : Nat → Nat} (hI : Inv S P nx) (hnx : nx < 1000000) (hM : RepMF f 0 S P nx M) (a : Int) (ha : -2147483648 ≤ a ∧ a ≤ 2147483647) : Con l b0 yX6_pieceOrThrow cX6_pieceOrThrow 3 (some (.object "CuttingRoom$Piece")) 9 1 6 [aO 0 0, aI a] ad (cnt ns nt) M (fun r9 M' => M' = M ∧ ∃ i q, slotS P a = some i ∧ P[i]? = some q ∧ RepPc q (40 * 0 + f i) M ∧ inD (cnt ns nt) 3 (40 * 0 + f i) ∧ r9 = some (aO 3 (40 * 0 + f i))) (fun E M' => E = eNS ∧ M' = M ∧ slotS P a = none) := by
  refine Con.of hl pl_X6 (Nat.le_of_ble_eq_true rfl) ?_
  intro D cA p e s m args below meth c C hr
  refine w_aload_n C dX6_pieceOrThrow_0 rfl ?_
  refine g_X6_19 C dX6_pieceOrThrow_1 (by first | assumption | exact Nat.zero_lt_one | exact Nat.zero_lt_two | exact Nat.one_lt_two) ?_
  refine w_iload_n C dX6_pieceOrThrow_4 rfl ?_
  refine w_callV C dX6_pieceOrThrow_5 (c_X1_pieceNumbered hl (show inD (cnt ns nt) 2 0 from Nat.zero_lt_two) hI.2.2.1 hM (fun p hp => by have := (hI.2.1.1 p hp).2.2.2.2.2.1; omega) a ha) mX1_pieceNumbered vX1_pieceNumbered lk_X6_237 (by first | assumption | exact Nat.zero_lt_one | exact Nat.zero_lt_two | exact Nat.one_lt_two) rfl rfl rfl rfl ⟨by decide, by decide, by decide, by decide⟩ (Nat.le_of_ble_eq_true rfl) (fun _ _ h => h.elim) ⟨by decide, by decide⟩ (fun r_ M_ q5 => ?_)
  obtain ⟨rfl, rfl⟩ := q5
  cases hs : slotS P a with
  | none =>
    refine Wm.top (v' := aR none) rfl ?_
    refine w_astore_n C dX6_pieceOrThrow_8 (by decide) ?_
    refine w_aload_n C dX6_pieceOrThrow_9 rfl ?_
    refine w_ifnonnull C dX6_pieceOrThrow_10 (fun h10 => ?_) (fun h10 => ?_)
    · obtain ⟨_, h10⟩ := h10
      cases h10
    · refine w_throwN C ts_240 dX6_pieceOrThrow_13 dX6_pieceOrThrow_16 dX6_pieceOrThrow_17 dX6_pieceOrThrow_19 dX6_pieceOrThrow_22 ⟨by decide, by decide, by decide, by decide⟩ (Nat.le_of_ble_eq_true rfl) (⟨rfl, rfl, rfl⟩) (by decide) (by decide)
  | some i =>
    obtain ⟨q, hq, hqz, hi⟩ := slot_at hs
    obtain ⟨-, hqm, hqr, i3⟩ := pc_at hM (show inD (cnt ns nt) 2 0 from Nat.zero_lt_two) hI.2.2.1 hq
    refine Wm.top (v' := aO 3 (40 * 0 + f i)) rfl ?_
    refine w_astore_n C dX6_pieceOrThrow_8 (by decide) ?_
    refine w_aload_n C dX6_pieceOrThrow_9 rfl ?_
    refine w_ifnonnull C dX6_pieceOrThrow_10 (fun h10 => ?_) (fun h10 => ?_)
    · refine w_aload_n C dX6_pieceOrThrow_23 rfl ?_
      refine w_aret C hr (Or.inl ⟨_, rfl⟩) dX6_pieceOrThrow_24 (⟨rfl, i, q, rfl, hq, hqr, i3, rfl⟩) (by decide) (by decide)
    · cases h10
theorem c_X6_takeOff (hl : l.stackTraces = false) {S : Sg} {P : List Pc} {nx : Nat} (hI : Inv S P nx) (hnx : nx < 1000000) (hns : nsS S ≤ ns) (hR : RepRoom S P nx M) (a : Int) (ha : -2147483648 ≤ a ∧ a ≤ 2147483647) : Con l b0 yX6_takeOff cX6_takeOff 2 (some .int) 10 1 6 [aO 0 0, aI a] ad (cnt ns nt) M (okR (oTakeOff a S P nx)) (exR (oTakeOff a S P nx) [eNS]) := by
  have hR' := hR
  obtain ⟨hCl, hSh, hMk, hSt, hRm, hTr⟩ := hR'
  have hMk' := hMk
  obtain ⟨f, hM⟩ := hMk'
  refine Con.of hl pl_X6 (Nat.le_of_ble_eq_true rfl) ?_
  intro D cA p e s m args below meth c C hr
  have X0 : ∀ (E9 : String) (M9 : Mem), (E9 = eNS ∧ M9 = M ∧ slotS P a = none) → exR (oTakeOff a S P nx) [eNS] E9 M9 := fun E9 M9 h9 => by
    obtain ⟨rfl, rfl, h9⟩ := h9
    exact exR_of (i := 0) (by unfold oTakeOff; rw [h9]) rfl hR
  refine w_aload_n C dX6_takeOff_0 rfl ?_
  refine w_iload_n C dX6_takeOff_1 rfl ?_
  refine w_callV C dX6_takeOff_2 (c_X6_pieceOrThrow hl hI hnx hM a ha) mX6_pieceOrThrow vX6_pieceOrThrow lk_X6_212 (by first | assumption | exact Nat.zero_lt_one | exact Nat.zero_lt_two | exact Nat.one_lt_two) rfl rfl rfl rfl ⟨by decide, by decide, by decide, by decide⟩ (Nat.le_of_ble_eq_true rfl) X0 ⟨by decide, by decide⟩ (fun r_ M_ q2 => ?_)
  obtain ⟨rfl, i, q, hs, hq, hqr, i3, rfl⟩ := q2
  refine w_pop C dX6_takeOff_5 rfl ?_
  refine w_aload_n C dX6_takeOff_6 rfl ?_
  refine g_X6_19 C dX6_takeOff_7 (by first | assumption | exact Nat.zero_lt_one | exact Nat.zero_lt_two | exact Nat.one_lt_two) ?_
  refine w_iload_n C dX6_takeOff_10 rfl ?_
  refine w_callV C dX6_takeOff_11 (c_X1_remove hl hI.1 (show inD (cnt ns nt) 2 0 from Nat.zero_lt_two) hI.2.2.1 hSh hMk hI.2.1 hns hnx a ha hs) mX1_remove vX1_remove lk_X6_216 (by first | assumption | exact Nat.zero_lt_one | exact Nat.zero_lt_two | exact Nat.one_lt_two) rfl rfl rfl rfl ⟨by decide, by decide, by decide, by decide⟩ (Nat.le_of_ble_eq_true rfl) (fun _ _ h => h.elim) ⟨by decide, by decide⟩ (fun r_ M2 q11 => ?_)
  obtain ⟨k1, k2, rfl⟩ := q11
  obtain ⟨f2, k2⟩ := k2
  refine w_aload_n C dX6_takeOff_14 rfl ?_
  refine g_X6_19 C dX6_takeOff_15 (by first | assumption | exact Nat.zero_lt_one | exact Nat.zero_lt_two | exact Nat.one_lt_two) ?_
  refine w_callV C dX6_takeOff_18 (c_X1_rowsUsed hl (show inD (cnt ns nt) 2 0 from Nat.zero_lt_two) k2) mX1_rowsUsed vX1_rowsUsed lk_X6_219 (by first | assumption | exact Nat.zero_lt_one | exact Nat.zero_lt_two | exact Nat.one_lt_two) rfl rfl rfl rfl ⟨by decide, by decide, by decide, by decide⟩ (Nat.le_of_ble_eq_true rfl) (fun _ _ h => h.elim) ⟨by decide, by decide⟩ (fun r_ M_ q18 => ?_)
  obtain ⟨rfl, rfl⟩ := q18
  refine w_iret C hr dX6_takeOff_21 rfl (okR_of (by unfold oTakeOff; rw [hs]) rfl (RepRoom.mk k1 ⟨f2, k2⟩ hR)) (by decide) (by decide)
theorem c_X6_clear (hl : l.stackTraces = false) {S : Sg} {P : List Pc} {nx : Nat} (hI : Inv S P nx) (hR : RepRoom S P nx M) : Con l b0 yX6_clear cX6_clear 2 (some .int) 3 0 0 [aO 0 0] ad (cnt ns nt) M (okR (oClear S P nx)) noX := by
  have hR' := hR
  obtain ⟨hCl, hSh, ⟨f, hM⟩, hSt, hRm, hTr⟩ := hR'
  refine Con.of hl pl_X6 (Nat.le_of_ble_eq_true rfl) ?_
  intro D cA p e s m args below meth c C hr
  refine w_aload_n C dX6_clear_0 rfl ?_
  refine g_X6_19 C dX6_clear_1 (by first | assumption | exact Nat.zero_lt_one | exact Nat.zero_lt_two | exact Nat.one_lt_two) ?_
  refine g_X6_59 C dX6_clear_4 (by first | assumption | exact Nat.zero_lt_one | exact Nat.zero_lt_two | exact Nat.one_lt_two) ?_
  rw [hM.1]
  refine w_istore_n C dX6_clear_7 (by decide) ?_
  refine w_aload_n C dX6_clear_8 rfl ?_
  refine g_X6_19 C dX6_clear_9 (by first | assumption | exact Nat.zero_lt_one | exact Nat.zero_lt_two | exact Nat.one_lt_two) ?_
  refine w_callV C dX6_clear_12 (c_X1_empty hl (S := S) (f := f) (show inD (cnt ns nt) 2 0 from Nat.zero_lt_two) ⟨hM.2.2.1.1, hM.2.2.1.2.1⟩) mX1_empty vX1_empty lk_X6_223 (by first | assumption | exact Nat.zero_lt_one | exact Nat.zero_lt_two | exact Nat.one_lt_two) rfl rfl rfl rfl ⟨by decide, by decide, by decide, by decide⟩ (Nat.le_of_ble_eq_true rfl) (fun _ _ h => h.elim) ⟨by decide, by decide⟩ (fun r_ M2 q12 => ?_)
  obtain ⟨k1, k2, rfl⟩ := q12
  refine w_iload_n C dX6_clear_15 rfl ?_
  refine w_iret C hr dX6_clear_16 rfl (okR_of (S' := S) (P' := []) (nx' := 0) rfl rfl (RepRoom.mk k1 ⟨f, k2⟩ hR)) (by decide) (by decide)
theorem c_X6_inMarker (hl : l.stackTraces = false) {S : Sg} {P : List Pc} {nx : Nat} (hR : RepRoom S P nx M) : Con l b0 yX6_inMarker cX6_inMarker 1 (some .int) 1 0 0 [aO 0 0] ad (cnt ns nt) M (okR (oInMarker S P nx)) noX := by
  have hR' := hR
  obtain ⟨hCl, hSh, ⟨f, hM⟩, hSt, hRm, hTr⟩ := hR'
  refine Con.of hl pl_X6 (Nat.le_of_ble_eq_true rfl) ?_
  intro D cA p e s m args below meth c C hr
  refine w_aload_n C dX6_inMarker_0 rfl ?_
  refine g_X6_19 C dX6_inMarker_1 (by first | assumption | exact Nat.zero_lt_one | exact Nat.zero_lt_two | exact Nat.one_lt_two) ?_
  refine g_X6_59 C dX6_inMarker_4 (by first | assumption | exact Nat.zero_lt_one | exact Nat.zero_lt_two | exact Nat.one_lt_two) ?_
  rw [hM.1]
  refine w_iret C hr dX6_inMarker_7 rfl (okR_of (S' := S) (P' := P) (nx' := nx) rfl rfl hR) (by decide) (by decide)
theorem oPc_of {P : List Pc} {a : Int} {i : Nat} {q : Pc} (hs : slotS P a = some i) (hq : P[i]? = some q) (g : Pc → Nat) (S : Sg) (nx : Nat) : oPc g a S P nx = (0, (g q : Int), S, P, nx) := by
  unfold oPc
  rw [hs]
  show (0, (g (P.getD i _) : Int), S, P, nx) = _
  rw [List.getD_eq_getElem?_getD, hq]
  rfl
theorem c_X6_rowOf (hl : l.stackTraces = false) {S : Sg} {P : List Pc} {nx : Nat} (hI : Inv S P nx) (hnx : nx < 1000000) (hR : RepRoom S P nx M) (a : Int) (ha : -2147483648 ≤ a ∧ a ≤ 2147483647) : Con l b0 yX6_rowOf cX6_rowOf 2 (some .int) 10 1 6 [aO 0 0, aI a] ad (cnt ns nt) M (okR (oPc pRow a S P nx)) (exR (oPc pRow a S P nx) [eNS]) := by
  have hR' := hR
  obtain ⟨hCl, hSh, ⟨f, hM⟩, hSt, hRm, hTr⟩ := hR'
  refine Con.of hl pl_X6 (Nat.le_of_ble_eq_true rfl) ?_
  intro D cA p e s m args below meth c C hr
  have X0 : ∀ (E9 : String) (M9 : Mem), (E9 = eNS ∧ M9 = M ∧ slotS P a = none) → exR (oPc pRow a S P nx) [eNS] E9 M9 := fun E9 M9 h9 => by
    obtain ⟨rfl, rfl, h9⟩ := h9
    exact exR_of (i := 0) (by unfold oPc; rw [h9]) rfl hR
  refine w_aload_n C dX6_rowOf_0 rfl ?_
  refine w_iload_n C dX6_rowOf_1 rfl ?_
  refine w_callV C dX6_rowOf_2 (c_X6_pieceOrThrow hl hI hnx hM a ha) mX6_pieceOrThrow vX6_pieceOrThrow lk_X6_212 (by first | assumption | exact Nat.zero_lt_one | exact Nat.zero_lt_two | exact Nat.one_lt_two) rfl rfl rfl rfl ⟨by decide, by decide, by decide, by decide⟩ (Nat.le_of_ble_eq_true rfl) X0 ⟨by decide, by decide⟩ (fun r_ M_ q2 => ?_)
  obtain ⟨rfl, i, q, hs, hq, ⟨r1, r2, r3, r4, r5, r6, r7⟩, i3, rfl⟩ := q2
  refine g_X6_226 C dX6_rowOf_5 (by first | assumption | exact Nat.zero_lt_one | exact Nat.zero_lt_two | exact Nat.one_lt_two) ?_
  rw [r5]
  refine w_iret C hr dX6_rowOf_8 rfl (okR_of (oPc_of hs hq pRow S nx) rfl hR) (by decide) (by decide)
theorem c_X6_columnOf (hl : l.stackTraces = false) {S : Sg} {P : List Pc} {nx : Nat} (hI : Inv S P nx) (hnx : nx < 1000000) (hR : RepRoom S P nx M) (a : Int) (ha : -2147483648 ≤ a ∧ a ≤ 2147483647) : Con l b0 yX6_columnOf cX6_columnOf 2 (some .int) 10 1 6 [aO 0 0, aI a] ad (cnt ns nt) M (okR (oPc pCol a S P nx)) (exR (oPc pCol a S P nx) [eNS]) := by
  have hR' := hR
  obtain ⟨hCl, hSh, ⟨f, hM⟩, hSt, hRm, hTr⟩ := hR'
  refine Con.of hl pl_X6 (Nat.le_of_ble_eq_true rfl) ?_
  intro D cA p e s m args below meth c C hr
  have X0 : ∀ (E9 : String) (M9 : Mem), (E9 = eNS ∧ M9 = M ∧ slotS P a = none) → exR (oPc pCol a S P nx) [eNS] E9 M9 := fun E9 M9 h9 => by
    obtain ⟨rfl, rfl, h9⟩ := h9
    exact exR_of (i := 0) (by unfold oPc; rw [h9]) rfl hR
  refine w_aload_n C dX6_columnOf_0 rfl ?_
  refine w_iload_n C dX6_columnOf_1 rfl ?_
  refine w_callV C dX6_columnOf_2 (c_X6_pieceOrThrow hl hI hnx hM a ha) mX6_pieceOrThrow vX6_pieceOrThrow lk_X6_212 (by first | assumption | exact Nat.zero_lt_one | exact Nat.zero_lt_two | exact Nat.one_lt_two) rfl rfl rfl rfl ⟨by decide, by decide, by decide, by decide⟩ (Nat.le_of_ble_eq_true rfl) X0 ⟨by decide, by decide⟩ (fun r_ M_ q2 => ?_)
  obtain ⟨rfl, i, q, hs, hq, ⟨r1, r2, r3, r4, r5, r6, r7⟩, i3, rfl⟩ := q2
  refine g_X6_231 C dX6_columnOf_5 (by first | assumption | exact Nat.zero_lt_one | exact Nat.zero_lt_two | exact Nat.one_lt_two) ?_
  rw [r6]
  refine w_iret C hr dX6_columnOf_8 rfl (okR_of (oPc_of hs hq pCol S nx) rfl hR) (by decide) (by decide)
theorem c_X6_turnsOf (hl : l.stackTraces = false) {S : Sg} {P : List Pc} {nx : Nat} (hI : Inv S P nx) (hnx : nx < 1000000) (hR : RepRoom S P nx M) (a : Int) (ha : -2147483648 ≤ a ∧ a ≤ 2147483647) : Con l b0 yX6_turnsOf cX6_turnsOf 2 (some .int) 10 1 6 [aO 0 0, aI a] ad (cnt ns nt) M (okR (oPc pTrn a S P nx)) (exR (oPc pTrn a S P nx) [eNS]) := by
  have hR' := hR
  obtain ⟨hCl, hSh, ⟨f, hM⟩, hSt, hRm, hTr⟩ := hR'
  refine Con.of hl pl_X6 (Nat.le_of_ble_eq_true rfl) ?_
  intro D cA p e s m args below meth c C hr
  have X0 : ∀ (E9 : String) (M9 : Mem), (E9 = eNS ∧ M9 = M ∧ slotS P a = none) → exR (oPc pTrn a S P nx) [eNS] E9 M9 := fun E9 M9 h9 => by
    obtain ⟨rfl, rfl, h9⟩ := h9
    exact exR_of (i := 0) (by unfold oPc; rw [h9]) rfl hR
  refine w_aload_n C dX6_turnsOf_0 rfl ?_
  refine w_iload_n C dX6_turnsOf_1 rfl ?_
  refine w_callV C dX6_turnsOf_2 (c_X6_pieceOrThrow hl hI hnx hM a ha) mX6_pieceOrThrow vX6_pieceOrThrow lk_X6_212 (by first | assumption | exact Nat.zero_lt_one | exact Nat.zero_lt_two | exact Nat.one_lt_two) rfl rfl rfl rfl ⟨by decide, by decide, by decide, by decide⟩ (Nat.le_of_ble_eq_true rfl) X0 ⟨by decide, by decide⟩ (fun r_ M_ q2 => ?_)
  obtain ⟨rfl, i, q, hs, hq, ⟨r1, r2, r3, r4, r5, r6, r7⟩, i3, rfl⟩ := q2
  refine g_X6_234 C dX6_turnsOf_5 (by first | assumption | exact Nat.zero_lt_one | exact Nat.zero_lt_two | exact Nat.one_lt_two) ?_
  rw [r4]
  refine w_iret C hr dX6_turnsOf_8 rfl (okR_of (oPc_of hs hq pTrn S nx) rfl hR) (by decide) (by decide)
theorem c_X6_checkCell (hl : l.stackTraces = false) (a b : Int) (ha : -2147483648 ≤ a ∧ a ≤ 2147483647) (hb : -2147483648 ≤ b ∧ b ≤ 2147483647) : Con l b0 yX6_checkCell cX6_checkCell 2 none 9 1 6 [aI a, aI b] ad (cnt ns nt) M (fun r9 M' => M' = M ∧ ((0 ≤ a ∧ a ≤ 59) ∧ 0 ≤ b ∧ b ≤ 11) ∧ r9 = none) (fun E M' => E = eIA ∧ M' = M ∧ ¬ ((0 ≤ a ∧ a ≤ 59) ∧ 0 ≤ b ∧ b ≤ 11)) := by
  have b1 := b2_01 (0 ≤ a ∧ a ≤ 59)
  have b2' := b2_01 (0 ≤ b ∧ b ≤ 11)
  refine Con.of hl pl_X6 (Nat.le_of_ble_eq_true rfl) ?_
  intro D cA p e s m args below meth c C hr
  have T20 : ∀ lv, ¬ ((0 ≤ a ∧ a ≤ 59) ∧ 0 ≤ b ∧ b ≤ 11) → Wm p l e (rmd 9 1 6) s m args below meth c 2 D cA b0 0 0 (vx_MQ below (mQ D cA b0 ad (cnt ns nt) (fun r9 M' => M' = M ∧ ((0 ≤ a ∧ a ≤ 59) ∧ 0 ≤ b ∧ b ≤ 11) ∧ r9 = none)) (mX D cA b0 ad (cnt ns nt) (fun E M' => E = eIA ∧ M' = M ∧ ¬ ((0 ≤ a ∧ a ≤ 59) ∧ 0 ≤ b ∧ b ≤ 11))) args s 1 6 b0) 20 lv [] ad (cnt ns nt) M := by
    intro lv hno
    refine w_throw C tk_52_56 ts_135 dX6_checkCell_20 dX6_checkCell_23 dX6_checkCell_24 dX6_checkCell_26 dX6_checkCell_29 ⟨by decide, by decide, by decide, by decide⟩ (Nat.le_of_ble_eq_true rfl) (⟨rfl, rfl, hno⟩) (by decide) (by decide)
  refine w_iload_n C dX6_checkCell_0 rfl ?_
  refine w_iconst C dX6_checkCell_1 ?_
  refine w_bipush (v := 59) C dX6_checkCell_2 rfl ?_
  refine w_callS C dX6_checkCell_4 (c_X6_isWithin hl a 0 59 (by omega) (by omega) (by omega)) mX6_isWithin sX6_isWithin lk_X6_48 rfl rfl ⟨by decide, by decide, by decide, by decide⟩ (Nat.le_of_ble_eq_true rfl) (fun _ _ h => h.elim) ⟨by decide, by decide⟩ (fun r_ M_ q4 => ?_)
  obtain ⟨rfl, rfl⟩ := q4
  refine w_if_eq C dX6_checkCell_7 (by omega) (fun h7 => ?_) (fun h7 => ?_)
  · exact T20 _ (fun q => by rw [b2_t q.1] at h7; omega)
  · have y1 : 0 ≤ a ∧ a ≤ 59 := Decidable.byContradiction fun q => h7 (b2_f q)
    refine w_iload_n C dX6_checkCell_10 rfl ?_
    refine w_iconst C dX6_checkCell_11 ?_
    refine w_bipush (v := 11) C dX6_checkCell_12 rfl ?_
    refine w_callS C dX6_checkCell_14 (c_X6_isWithin hl b 0 11 (by omega) (by omega) (by omega)) mX6_isWithin sX6_isWithin lk_X6_48 rfl rfl ⟨by decide, by decide, by decide, by decide⟩ (Nat.le_of_ble_eq_true rfl) (fun _ _ h => h.elim) ⟨by decide, by decide⟩ (fun r_ M_ q14 => ?_)
    obtain ⟨rfl, rfl⟩ := q14
    refine w_if_ne C dX6_checkCell_17 (by omega) (fun h17 => ?_) (fun h17 => ?_)
    · have y2 : 0 ≤ b ∧ b ≤ 11 := Decidable.byContradiction fun q => h17 (b2_f q)
      refine w_vret C hr dX6_checkCell_30 (⟨rfl, ⟨y1, y2⟩, rfl⟩) (by decide) (by decide)
    · exact T20 _ (fun q => by rw [b2_t q.2] at h17; omega)
theorem c_X6_numberOrThrow (hl : l.stackTraces = false) (a : Int) (ha : -2147483648 ≤ a ∧ a ≤ 2147483647) : Con l b0 yX6_numberOrThrow cX6_numberOrThrow 1 (some .int) 9 1 6 [aI a] ad (cnt ns nt) M (fun r9 M' => M' = M ∧ a ≠ -1 ∧ r9 = some (aI a)) (fun E M' => E = eIS ∧ M' = M ∧ a = -1) := by
  refine Con.of hl pl_X6 (Nat.le_of_ble_eq_true rfl) ?_
  intro D cA p e s m args below meth c C hr
  refine w_iload_n C dX6_numberOrThrow_0 rfl ?_
  refine w_iconst C dX6_numberOrThrow_1 ?_
  refine w_icmp_ne C dX6_numberOrThrow_2 (by omega) (by omega) (fun h2 => ?_) (fun h2 => ?_)
  · refine w_iload_n C dX6_numberOrThrow_15 rfl ?_
    refine w_iret C hr dX6_numberOrThrow_16 rfl (⟨rfl, h2, rfl⟩) (by decide) (by decide)
  · refine w_throw C tk_66_70 ts_251 dX6_numberOrThrow_5 dX6_numberOrThrow_8 dX6_numberOrThrow_9 dX6_numberOrThrow_11 dX6_numberOrThrow_14 ⟨by decide, by decide, by decide, by decide⟩ (Nat.le_of_ble_eq_true rfl) (⟨rfl, rfl, Decidable.not_not.mp h2⟩) (by decide) (by decide)
theorem c_X6_pieceAt (hl : l.stackTraces = false) {S : Sg} {P : List Pc} {nx : Nat} (hI : Inv S P nx) (hnx : nx < 1000000) (hR : RepRoom S P nx M) (a b : Int) (ha : -2147483648 ≤ a ∧ a ≤ 2147483647) (hb : -2147483648 ≤ b ∧ b ≤ 2147483647) : Con l b0 yX6_pieceAt cX6_pieceAt 3 (some .int) 10 2 12 [aO 0 0, aI a, aI b] ad (cnt ns nt) M (okR (oPieceAt a b S P nx)) (exR (oPieceAt a b S P nx) [eIA, eIS]) := by
  have hR' := hR
  obtain ⟨hCl, hSh, ⟨f, hM⟩, hSt, hRm, hTr⟩ := hR'
  have hnb : ∀ k, -1 ≤ clo S P k ∧ clo S P k ≤ 1000000000 := fun k => by
    have c1 := clo_ge S P k
    have c2 := clo_lt (S := S) (fun p hp => (hI.2.1.1 p hp).2.2.2.2.2.1) k
    omega
  refine Con.of hl pl_X6 (Nat.le_of_ble_eq_true rfl) ?_
  intro D cA p e s m args below meth c C hr
  have X0 : ∀ (E9 : String) (M9 : Mem), (E9 = eIA ∧ M9 = M ∧ ¬ ((0 ≤ a ∧ a ≤ 59) ∧ 0 ≤ b ∧ b ≤ 11)) → exR (oPieceAt a b S P nx) [eIA, eIS] E9 M9 := fun E9 M9 h9 => by
    obtain ⟨rfl, rfl, h9⟩ := h9
    exact exR_of (i := 0) (by unfold oPieceAt; rw [if_pos h9]) rfl hR
  have X1 : ((0 ≤ a ∧ a ≤ 59) ∧ 0 ≤ b ∧ b ≤ 11) → ∀ (E9 : String) (M9 : Mem), (E9 = eIS ∧ M9 = M ∧ clo S P (12 * a.toNat + b.toNat) = -1) → exR (oPieceAt a b S P nx) [eIA, eIS] E9 M9 := fun hj E9 M9 h9 => by
    obtain ⟨rfl, rfl, h9⟩ := h9
    exact exR_of (i := 1) (by unfold oPieceAt; rw [if_neg (fun q => q hj), if_pos h9]) rfl hR
  refine w_iload_n C dX6_pieceAt_0 rfl ?_
  refine w_iload_n C dX6_pieceAt_1 rfl ?_
  refine w_callS C dX6_pieceAt_2 (c_X6_checkCell hl a b ha hb) mX6_checkCell sX6_checkCell lk_X6_242 rfl rfl ⟨by decide, by decide, by decide, by decide⟩ (Nat.le_of_ble_eq_true rfl) X0 ⟨by decide, by decide⟩ (fun r_ M_ q2 => ?_)
  obtain ⟨rfl, hj, rfl⟩ := q2
  obtain ⟨u, rfl⟩ := Int.eq_ofNat_of_zero_le hj.1.1
  obtain ⟨v, rfl⟩ := Int.eq_ofNat_of_zero_le hj.2.1
  have X1' := X1 hj
  rw [Int.toNat_natCast, Int.toNat_natCast] at X1'
  refine w_aload_n C dX6_pieceAt_5 rfl ?_
  refine g_X6_19 C dX6_pieceAt_6 (by first | assumption | exact Nat.zero_lt_one | exact Nat.zero_lt_two | exact Nat.one_lt_two) ?_
  refine w_iload_n C dX6_pieceAt_9 rfl ?_
  refine w_iload_n C dX6_pieceAt_10 rfl ?_
  refine w_callV C dX6_pieceAt_11 (c_X1_ownerOf hl (show inD (cnt ns nt) 2 0 from Nat.zero_lt_two) (g := clo S P) hM.2.2.2.1 u v (by omega) (by omega)) mX1_ownerOf vX1_ownerOf lk_X6_110 (by first | assumption | exact Nat.zero_lt_one | exact Nat.zero_lt_two | exact Nat.one_lt_two) rfl rfl rfl rfl ⟨by decide, by decide, by decide, by decide⟩ (Nat.le_of_ble_eq_true rfl) (fun _ _ h => h.elim) ⟨by decide, by decide⟩ (fun r_ M_ q11 => ?_)
  obtain ⟨rfl, rfl⟩ := q11
  have hnb' := hnb (12 * u + v)
  refine w_callS C dX6_pieceAt_14 (c_X6_numberOrThrow hl (clo S P (12 * u + v)) (by omega)) mX6_numberOrThrow sX6_numberOrThrow lk_X6_245 rfl rfl ⟨by decide, by decide, by decide, by decide⟩ (Nat.le_of_ble_eq_true rfl) X1' ⟨by decide, by decide⟩ (fun r_ M_ q14 => ?_)
  obtain ⟨rfl, hne, rfl⟩ := q14
  refine w_iret C hr dX6_pieceAt_17 rfl (okR_of (by unfold oPieceAt; rw [if_neg (fun q => q hj), Int.toNat_natCast, Int.toNat_natCast, if_neg hne]) rfl hR) (by decide) (by decide)
theorem c_X6_pieceByPieces (hl : l.stackTraces = false) {S : Sg} {P : List Pc} {nx : Nat} (hI : Inv S P nx) (hnx : nx < 1000000) (hns : nsS S ≤ ns) (hR : RepRoom S P nx M) (a b : Int) (ha : -2147483648 ≤ a ∧ a ≤ 2147483647) (hb : -2147483648 ≤ b ∧ b ≤ 2147483647) : Con l b0 yX6_pieceByPieces cX6_pieceByPieces 3 (some .int) 10 2 12 [aO 0 0, aI a, aI b] ad (cnt ns nt) M (okR (oPieceAt a b S P nx)) (exR (oPieceAt a b S P nx) [eIA, eIS]) := by
  have hR' := hR
  obtain ⟨hCl, hSh, ⟨f, hM⟩, hSt, hRm, hTr⟩ := hR'
  have hnb : ∀ k, -1 ≤ clo S P k ∧ clo S P k ≤ 1000000000 := fun k => by
    have c1 := clo_ge S P k
    have c2 := clo_lt (S := S) (fun p hp => (hI.2.1.1 p hp).2.2.2.2.2.1) k
    omega
  refine Con.of hl pl_X6 (Nat.le_of_ble_eq_true rfl) ?_
  intro D cA p e s m args below meth c C hr
  have X0 : ∀ (E9 : String) (M9 : Mem), (E9 = eIA ∧ M9 = M ∧ ¬ ((0 ≤ a ∧ a ≤ 59) ∧ 0 ≤ b ∧ b ≤ 11)) → exR (oPieceAt a b S P nx) [eIA, eIS] E9 M9 := fun E9 M9 h9 => by
    obtain ⟨rfl, rfl, h9⟩ := h9
    exact exR_of (i := 0) (by unfold oPieceAt; rw [if_pos h9]) rfl hR
  have X1 : ((0 ≤ a ∧ a ≤ 59) ∧ 0 ≤ b ∧ b ≤ 11) → ∀ (E9 : String) (M9 : Mem), (E9 = eIS ∧ M9 = M ∧ clo S P (12 * a.toNat + b.toNat) = -1) → exR (oPieceAt a b S P nx) [eIA, eIS] E9 M9 := fun hj E9 M9 h9 => by
    obtain ⟨rfl, rfl, h9⟩ := h9
    exact exR_of (i := 1) (by unfold oPieceAt; rw [if_neg (fun q => q hj), if_pos h9]) rfl hR
  refine w_iload_n C dX6_pieceByPieces_0 rfl ?_
  refine w_iload_n C dX6_pieceByPieces_1 rfl ?_
  refine w_callS C dX6_pieceByPieces_2 (c_X6_checkCell hl a b ha hb) mX6_checkCell sX6_checkCell lk_X6_242 rfl rfl ⟨by decide, by decide, by decide, by decide⟩ (Nat.le_of_ble_eq_true rfl) X0 ⟨by decide, by decide⟩ (fun r_ M_ q2 => ?_)
  obtain ⟨rfl, hj, rfl⟩ := q2
  obtain ⟨u, rfl⟩ := Int.eq_ofNat_of_zero_le hj.1.1
  obtain ⟨v, rfl⟩ := Int.eq_ofNat_of_zero_le hj.2.1
  have X1' := X1 hj
  rw [Int.toNat_natCast, Int.toNat_natCast] at X1'
  refine w_aload_n C dX6_pieceByPieces_5 rfl ?_
  refine g_X6_19 C dX6_pieceByPieces_6 (by first | assumption | exact Nat.zero_lt_one | exact Nat.zero_lt_two | exact Nat.one_lt_two) ?_
  refine w_iload_n C dX6_pieceByPieces_9 rfl ?_
  refine w_iload_n C dX6_pieceByPieces_10 rfl ?_
  refine w_callV C dX6_pieceByPieces_11 (c_X1_ownerByPieces hl hI.1 (show inD (cnt ns nt) 2 0 from Nat.zero_lt_two) hI.2.2.1 hM hI.2.1 hSh hns u v (by omega) (by omega)) mX1_ownerByPieces vX1_ownerByPieces lk_X6_248 (by first | assumption | exact Nat.zero_lt_one | exact Nat.zero_lt_two | exact Nat.one_lt_two) rfl rfl rfl rfl ⟨by decide, by decide, by decide, by decide⟩ (Nat.le_of_ble_eq_true rfl) (fun _ _ h => h.elim) ⟨by decide, by decide⟩ (fun r_ M_ q11 => ?_)
  obtain ⟨rfl, rfl⟩ := q11
  have hnb' := hnb (12 * u + v)
  refine w_callS C dX6_pieceByPieces_14 (c_X6_numberOrThrow hl (clo S P (12 * u + v)) (by omega)) mX6_numberOrThrow sX6_numberOrThrow lk_X6_245 rfl rfl ⟨by decide, by decide, by decide, by decide⟩ (Nat.le_of_ble_eq_true rfl) X1' ⟨by decide, by decide⟩ (fun r_ M_ q14 => ?_)
  obtain ⟨rfl, hne, rfl⟩ := q14
  refine w_iret C hr dX6_pieceByPieces_17 rfl (okR_of (by unfold oPieceAt; rw [if_neg (fun q => q hj), Int.toNat_natCast, Int.toNat_natCast, if_neg hne]) rfl hR) (by decide) (by decide)
theorem c_X6_length (hl : l.stackTraces = false) {S : Sg} {P : List Pc} {nx : Nat} (hR : RepRoom S P nx M) : Con l b0 yX6_length cX6_length 1 (some .int) 3 0 0 [aO 0 0] ad (cnt ns nt) M (okR (oLength S P nx)) noX := by
  have hR' := hR
  obtain ⟨hCl, hSh, ⟨f, hM⟩, hSt, hRm, hTr⟩ := hR'
  refine Con.of hl pl_X6 (Nat.le_of_ble_eq_true rfl) ?_
  intro D cA p e s m args below meth c C hr
  refine w_aload_n C dX6_length_0 rfl ?_
  refine g_X6_19 C dX6_length_1 (by first | assumption | exact Nat.zero_lt_one | exact Nat.zero_lt_two | exact Nat.one_lt_two) ?_
  refine w_callV C dX6_length_4 (c_X1_rowsUsed hl (show inD (cnt ns nt) 2 0 from Nat.zero_lt_two) hM) mX1_rowsUsed vX1_rowsUsed lk_X6_219 (by first | assumption | exact Nat.zero_lt_one | exact Nat.zero_lt_two | exact Nat.one_lt_two) rfl rfl rfl rfl ⟨by decide, by decide, by decide, by decide⟩ (Nat.le_of_ble_eq_true rfl) (fun _ _ h => h.elim) ⟨by decide, by decide⟩ (fun r_ M_ q4 => ?_)
  obtain ⟨rfl, rfl⟩ := q4
  refine w_iret C hr dX6_length_7 rfl (okR_of (S' := S) (P' := P) (nx' := nx) rfl rfl hR) (by decide) (by decide)
theorem c_X6_used (hl : l.stackTraces = false) {S : Sg} {P : List Pc} {nx : Nat} (hI : Inv S P nx) (hns : nsS S ≤ ns) (hR : RepRoom S P nx M) : Con l b0 yX6_used cX6_used 1 (some .int) 3 0 0 [aO 0 0] ad (cnt ns nt) M (okR (oUsed S P nx)) noX := by
  have hR' := hR
  obtain ⟨hCl, hSh, ⟨f, hM⟩, hSt, hRm, hTr⟩ := hR'
  refine Con.of hl pl_X6 (Nat.le_of_ble_eq_true rfl) ?_
  intro D cA p e s m args below meth c C hr
  refine w_aload_n C dX6_used_0 rfl ?_
  refine g_X6_19 C dX6_used_1 (by first | assumption | exact Nat.zero_lt_one | exact Nat.zero_lt_two | exact Nat.one_lt_two) ?_
  refine w_callV C dX6_used_4 (c_X1_cellsUsed hl hI.1 (show inD (cnt ns nt) 2 0 from Nat.zero_lt_two) hI.2.2.1 hM hI.2.1 hSh hns) mX1_cellsUsed vX1_cellsUsed lk_X6_253 (by first | assumption | exact Nat.zero_lt_one | exact Nat.zero_lt_two | exact Nat.one_lt_two) rfl rfl rfl rfl ⟨by decide, by decide, by decide, by decide⟩ (Nat.le_of_ble_eq_true rfl) (fun _ _ h => h.elim) ⟨by decide, by decide⟩ (fun r_ M_ q4 => ?_)
  obtain ⟨rfl, rfl⟩ := q4
  refine w_iret C hr dX6_used_7 rfl (okR_of (S' := S) (P' := P) (nx' := nx) rfl rfl hR) (by decide) (by decide)
theorem c_X6_phase (hl : l.stackTraces = false) {S : Sg} {P : List Pc} {nx : Nat} (hI : Inv S P nx) (hR : RepRoom S P nx M) (a : Int) (ha : -2147483648 ≤ a ∧ a ≤ 2147483647) : Con l b0 yX6_phase cX6_phase 2 (some .int) 9 1 6 [aO 0 0, aI a] ad (cnt ns nt) M (okR (oPhase a S P nx)) (exR (oPhase a S P nx) [eIA, eIS]) := by
  have hR' := hR
  obtain ⟨hCl, hSh, ⟨f, hM⟩, hSt, hRm, hTr⟩ := hR'
  obtain ⟨a1, a2, a3, a4, a5, a6, a7⟩ := hM
  have b1 := b2_01 (0 ≤ a ∧ a ≤ 3)
  have b2' := b2_01 (2 ≤ srS S)
  have i24 : inD (cnt ns nt) 24 0 := Nat.zero_lt_two
  have i25 : inD (cnt ns nt) 25 0 := Nat.zero_lt_two
  refine Con.of hl pl_X6 (Nat.le_of_ble_eq_true rfl) ?_
  intro D cA p e s m args below meth c C hr
  have T44 : ∀ lv, (0 ≤ a ∧ a ≤ 3) → (¬ 2 ≤ srS S ∨ inGr S P (a.toNat + 1) = 0) → Wm p l e (rmd 9 1 6) s m args below meth c 2 D cA b0 0 0 (vx_MQ below (mQ D cA b0 ad (cnt ns nt) (okR (oPhase a S P nx))) (mX D cA b0 ad (cnt ns nt) (exR (oPhase a S P nx) [eIA, eIS])) args s 1 6 b0) 44 lv [] ad (cnt ns nt) M := by
    intro lv h8 h9
    refine w_throwW C tk_66_70 ts_268 dX6_phase_44 dX6_phase_47 dX6_phase_48 dX6_phase_51 dX6_phase_54 ⟨by decide, by decide, by decide, by decide⟩ (Nat.le_of_ble_eq_true rfl) (exR_of (i := 1) (by unfold oPhase; rw [if_neg (fun q => q h8), if_pos h9]) rfl hR) (by decide) (by decide)
  refine w_iload_n C dX6_phase_0 rfl ?_
  refine w_iconst C dX6_phase_1 ?_
  refine w_iconst C dX6_phase_2 ?_
  refine w_callS C dX6_phase_3 (c_X6_isWithin hl a 0 3 (by omega) (by omega) (by omega)) mX6_isWithin sX6_isWithin lk_X6_48 rfl rfl ⟨by decide, by decide, by decide, by decide⟩ (Nat.le_of_ble_eq_true rfl) (fun _ _ h => h.elim) ⟨by decide, by decide⟩ (fun r_ M_ q3 => ?_)
  obtain ⟨rfl, rfl⟩ := q3
  refine w_if_ne C dX6_phase_6 (by omega) (fun h6 => ?_) (fun h6 => ?_)
  · have y1 : 0 ≤ a ∧ a ≤ 3 := Decidable.byContradiction fun q => h6 (b2_f q)
    obtain ⟨u, rfl⟩ := Int.eq_ofNat_of_zero_le y1.1
    refine w_aload_n C dX6_phase_20 rfl ?_
    refine g_X6_12 C dX6_phase_21 (by first | assumption | exact Nat.zero_lt_one | exact Nat.zero_lt_two | exact Nat.one_lt_two) ?_
    refine w_callV C dX6_phase_24 (c_X0_isStriped hl hI.1 hCl.1) mX0_isStriped vX0_isStriped lk_X6_258 (by first | assumption | exact Nat.zero_lt_one | exact Nat.zero_lt_two | exact Nat.one_lt_two) rfl rfl rfl rfl ⟨by decide, by decide, by decide, by decide⟩ (Nat.le_of_ble_eq_true rfl) (fun _ _ h => h.elim) ⟨by decide, by decide⟩ (fun r_ M_ q24 => ?_)
    obtain ⟨rfl, rfl⟩ := q24
    refine w_if_eq C dX6_phase_27 (by omega) (fun h27 => ?_) (fun h27 => ?_)
    · exact T44 _ y1 (Or.inl fun q => by rw [b2_t q] at h27; omega)
    · have y2 : 2 ≤ srS S := Decidable.byContradiction fun q => h27 (b2_f q)
      refine w_aload_n C dX6_phase_30 rfl ?_
      refine g_X6_19 C dX6_phase_31 (by first | assumption | exact Nat.zero_lt_one | exact Nat.zero_lt_two | exact Nat.one_lt_two) ?_
      refine g_X6_261 C dX6_phase_34 (by first | assumption | exact Nat.zero_lt_one | exact Nat.zero_lt_two | exact Nat.one_lt_two) ?_
      refine w_iload_n C dX6_phase_37 rfl ?_
      refine w_callS C dX6_phase_38 (c_X6_entry hl IA_24 i24 (u : Int) (by omega)) mX6_entry sX6_entry lk_X6_264 rfl rfl ⟨by decide, by decide, by decide, by decide⟩ (Nat.le_of_ble_eq_true rfl) (fun _ _ h => h.elim) ⟨by decide, by decide⟩ (fun r_ M_ q38 => ?_)
      obtain ⟨rfl, rfl⟩ := q38
      rw [rd_ok (by omega), a6 u (by omega)]
      have hcp : inGr S P (u + 1) ≤ P.length := List.countP_le_length
      have hP40 := hI.2.2.1
      refine w_if_ne C dX6_phase_41 (by omega) (fun h41 => ?_) (fun h41 => ?_)
      · have y3 : ¬ (¬ 2 ≤ srS S ∨ inGr S P (u + 1) = 0) := by
          rintro (q | q)
          · exact q y2
          · exact h41 (by rw [q]; rfl)
        obtain ⟨p9, hp9, e9⟩ := List.countP_pos_iff.mp (show 0 < inGr S P (u + 1) by omega)
        rw [beq_iff_eq] at e9
        have eph : phaseS S P (u + 1) = M_.1 25 0 u := by
          unfold phaseS
          cases hf : P.find? (fun p => gpS S (pShp p) == u + 1) with
          | none =>
            rw [List.find?_eq_none] at hf
            exact absurd (beq_iff_eq.mpr e9) (hf p9 hp9)
          | some p8 =>
            have h1 := List.mem_of_find?_eq_some hf
            have h9 := List.find?_some hf
            have h2 : gpS S (pShp p8) = u + 1 := beq_iff_eq.mp h9
            have h3 := a7 p8 h1 (by omega)
            rw [h2, Nat.add_sub_cancel] at h3
            exact h3.symm
        refine w_aload_n C dX6_phase_55 rfl ?_
        refine g_X6_19 C dX6_phase_56 (by first | assumption | exact Nat.zero_lt_one | exact Nat.zero_lt_two | exact Nat.one_lt_two) ?_
        refine g_X6_270 C dX6_phase_59 (by first | assumption | exact Nat.zero_lt_one | exact Nat.zero_lt_two | exact Nat.one_lt_two) ?_
        refine w_iload_n C dX6_phase_62 rfl ?_
        refine w_callS C dX6_phase_63 (c_X6_entry hl IA_25 i25 (u : Int) (by omega)) mX6_entry sX6_entry lk_X6_264 rfl rfl ⟨by decide, by decide, by decide, by decide⟩ (Nat.le_of_ble_eq_true rfl) (fun _ _ h => h.elim) ⟨by decide, by decide⟩ (fun r_ M_ q63 => ?_)
        obtain ⟨rfl, rfl⟩ := q63
        rw [rd_ok (by omega), ← eph]
        refine w_iret C hr dX6_phase_66 rfl (okR_of (by unfold oPhase; rw [if_neg (fun q => q y1), Int.toNat_natCast, if_neg y3]) rfl hR) (by decide) (by decide)
      · exact T44 _ y1 (Or.inr (by rw [Int.toNat_natCast]; omega))
  · refine w_throwW C tk_52_56 ts_256 dX6_phase_9 dX6_phase_12 dX6_phase_13 dX6_phase_16 dX6_phase_19 ⟨by decide, by decide, by decide, by decide⟩ (Nat.le_of_ble_eq_true rfl) (exR_of (i := 0) (by unfold oPhase; rw [if_pos (fun q => h6 (by rw [b2_t q]; decide))]) rfl hR) (by decide) (by decide)
end Rm
