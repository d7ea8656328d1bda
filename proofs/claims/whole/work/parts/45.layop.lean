/-! the room: laying, taking off, reads of the marker -/
theorem w_throwN {p : Program} {l : Launch} {e : Env} {R : Room} {s : State} {m : MethodId} {args : Array Value} {below : List Frame} {meth : Method} {c : Code} {cc : ByteArray} {nL : Nat} {D : va_G} {cA : Nat → ClassId} {b0 : Nat → Prop} {cells slots pc : Nat} {lv : Lv} {st : List AV} {ad : Ads} {ns nt : Nat} {M : Mem} (C : Cx l p s m args meth c cc RX6 nL D cA b0 []) {P : PT} {X : PX} {mc ms is p3 p4 p6 p9 p10 : Nat} {text : String} (hstr : (RX6, is, text) ∈ strL) (d0 : DI cc pc (.new 203) 3 p3) (d3 : DI cc p3 .dup 1 p4) (d4 : DI cc p4 (.ldc is) 2 p6) (d6 : DI cc p6 (.invokespecial 207) 3 p9) (d9 : DI cc p9 .athrow 1 p10)
    (hroom : 6 < R.frames ∧ 103 ≤ R.locals ∧ cells + 1 ≤ R.cells ∧ slots + 6 ≤ R.slots) (hwt : (st.map fun v => if cat2 v then 2 else 1).sum ≤ 8) (hX : X eNS M) (hc : cells + 1 ≤ mc) (hs : slots + 6 ≤ ms) : Wm p l e R s m args below meth c nL D cA b0 cells slots (vx_MQ below (mQ D cA b0 ad (cnt ns nt) P) (mX D cA b0 ad (cnt ns nt) X) args s mc ms b0) pc lv st ad (cnt ns nt) M := by
  sorry
def oReason (a t b c : Int) (w : Nat) (S : Sg) (P : List Pc) (nx : Nat) : Res := if ¬ (0 ≤ a ∧ a < nsS S) then (1, 0, S, P, nx) else if ¬ (0 ≤ t ∧ t ≤ 3) then (2, 0, S, P, nx) else (0, reasonS S P a.toNat t.toNat w b c, S, P, nx)
def oLay (a t b c : Int) (w : Nat) (S : Sg) (P : List Pc) (nx : Nat) : Res := if ¬ (0 ≤ a ∧ a < nsS S) then (1, 0, S, P, nx) else if ¬ (0 ≤ t ∧ t ≤ 3) then (2, 0, S, P, nx) else if reasonS S P a.toNat t.toNat w b c ≠ 45 then (3, 0, S, P, nx) else if 40 ≤ P.length then (4, 0, S, P, nx) else (0, (nx : Int), S, P ++ [(nx, a.toNat, t.toNat, b.toNat, c.toNat, w)], nx + 1)
/-- z: what FSp says of the shape -/
def oNest (a : Int) (w : Nat) (z : Int) (S : Sg) (P : List Pc) (nx : Nat) : Res := if ¬ (0 ≤ a ∧ a < nsS S) then (1, 0, S, P, nx) else if z = -1 then (2, 0, S, P, nx) else if 40 ≤ P.length then (3, 0, S, P, nx) else (0, (nx : Int), S, P ++ [(nx, a.toNat, z.toNat % 4, z.toNat / 4 / 12, z.toNat / 4 % 12, w)], nx + 1)
def oTakeOff (a : Int) (S : Sg) (P : List Pc) (nx : Nat) : Res := match slotS P a with
  | none => (1, 0, S, P, nx)
  | some i => (0, (lenR S (P.eraseIdx i) : Int), S, P.eraseIdx i, nx)
def oPc (g : Pc → Nat) (a : Int) (S : Sg) (P : List Pc) (nx : Nat) : Res := match slotS P a with
  | none => (1, 0, S, P, nx)
  | some i => (0, (g (P.getD i (0, 0, 0, 0, 0, 0)) : Int), S, P, nx)
def oPieceAt (a b : Int) (S : Sg) (P : List Pc) (nx : Nat) : Res := if ¬ ((0 ≤ a ∧ a ≤ 59) ∧ 0 ≤ b ∧ b ≤ 11) then (1, 0, S, P, nx) else if clo S P (12 * a.toNat + b.toNat) = -1 then (2, 0, S, P, nx) else (0, clo S P (12 * a.toNat + b.toNat), S, P, nx)
theorem mkK_n {k i : Nat} (h : k ≠ 3 ∧ k ≠ 2 ∧ k ≠ 12 ∧ k ≠ 22 ∧ k ≠ 23 ∧ k ≠ 24 ∧ k ≠ 25 ∧ k ≠ 26) {mi : Nat} : ¬ mkK mi k i := fun q => by
  obtain ⟨h1, h2, h3, h4, h5, h6, h7, h8⟩ := h
  rcases q with q | q
  · exact h1 q.1
  · rcases q.1 with q | q | q | q | q | q | q <;> contradiction
/-- only the marker 0 has changed -/
theorem RepRoom.mk {S : Sg} {P P' : List Pc} {nx nx' : Nat} {M M' : Mem} (hF : Fr (mkK 0) M M') (hM' : RepMk 0 S P' nx' M') (hR : RepRoom S P nx M) : RepRoom S P' nx' M' := by
  obtain ⟨hC, hSh, hM, hSt, hRm, hTr⟩ := hR
  refine ⟨RepCl.fr hF (mkK_n (by decide)) (mkK_n (by decide)) (mkK_n (by decide)) hC, RepSh.fr hF (fun i => ⟨mkK_n (by decide), mkK_n (by decide), mkK_n (by decide), mkK_n (by decide), mkK_n (by decide)⟩) hSh, hM', RepSt.fr hF (fun i => ⟨mkK_n (by decide), mkK_n (by decide)⟩) hSt, RepRm.fr hF (mkK_n (by decide)) (mkK_n (by decide)) (mkK_n (by decide)) hRm, TrOK.fr hF ?_ hTr⟩
  rintro (q | q)
  · exact absurd q.1 (by decide)
  · exact absurd q.2 (by decide)
theorem RepRoom.mt {S : Sg} {P : List Pc} {nx : Nat} {M M' : Mem} (hP : P.length ≤ 40) (hF : Fr (metK 0) M M') (hR : RepRoom S P nx M) : RepRoom S P nx M' := by
  have h26 : ∀ {k i : Nat}, k ≠ 26 → ¬ metK 0 k i := fun h q => h q.1
  exact RepRoom.mk (hF.mono fun k i q => Or.inr ⟨by simp [q.1], q.2⟩) (RepMk.fr hP hF ⟨h26 (by decide), h26 (by decide), h26 (by decide), h26 (by decide), h26 (by decide), h26 (by decide)⟩ (fun _ _ => h26 (by decide)) hR.2.2.1) hR
section Rm
variable {l : Launch} {b0 : Nat → Prop} {ad : Ads} {ns nt : Nat} {M : Mem}
theorem c_X6_checkTurns (hl : l.stackTraces = false) (t : Int) (ht : -2147483648 ≤ t ∧ t ≤ 2147483647) : Con l b0 yX6_checkTurns cX6_checkTurns 1 none 9 1 6 [aI t] ad (cnt ns nt) M (fun r9 M' => M' = M ∧ (0 ≤ t ∧ t ≤ 3) ∧ r9 = none) (fun E M' => E = eIA ∧ M' = M ∧ ¬ (0 ≤ t ∧ t ≤ 3)) := by
  have b1 := b2_01 (0 ≤ t ∧ t ≤ 3)
  refine Con.of hl pl_X6 (Nat.le_of_ble_eq_true rfl) ?_
  intro D cA p e s m args below meth c C hr
  refine w_iload_n C dX6_checkTurns_0 rfl ?_
  refine w_iconst C dX6_checkTurns_1 ?_
  refine w_iconst C dX6_checkTurns_2 ?_
  refine w_callS C dX6_checkTurns_3 (c_X6_isWithin hl t 0 3 (by omega) (by omega) (by omega)) mX6_isWithin sX6_isWithin lk_X6_48 rfl rfl ⟨by decide, by decide, by decide, by decide⟩ (Nat.le_of_ble_eq_true rfl) (fun _ _ h => h.elim) ⟨by decide, by decide⟩ (fun r_ M_ q3 => ?_)
  obtain ⟨rfl, rfl⟩ := q3
  refine w_if_ne C dX6_checkTurns_6 (by omega) (fun h6 => ?_) (fun h6 => ?_)
  · refine w_vret C hr dX6_checkTurns_19 (⟨rfl, Decidable.byContradiction fun q => h6 (b2_f q), rfl⟩) (by decide) (by decide)
  · refine w_throw C tk_52_56 ts_197 dX6_checkTurns_9 dX6_checkTurns_12 dX6_checkTurns_13 dX6_checkTurns_15 dX6_checkTurns_18 ⟨by decide, by decide, by decide, by decide⟩ (Nat.le_of_ble_eq_true rfl) (⟨rfl, rfl, fun q => h6 (by rw [b2_t q]; decide)⟩) (by decide) (by decide)
theorem c_X6_reason (hl : l.stackTraces = false) {S : Sg} {P : List Pc} {nx : Nat} (hI : Inv S P nx) (hns : nsS S ≤ ns) (hR : RepRoom S P nx M) (a t b c' : Int) (w : Nat) (hw : w ≤ 1) (ha : -2147483648 ≤ a ∧ a ≤ 2147483647) (ht : -2147483648 ≤ t ∧ t ≤ 2147483647) (hb : -2147483648 ≤ b ∧ b ≤ 2147483647) (hc : -2147483648 ≤ c' ∧ c' ≤ 2147483647) : Con l b0 yX6_reason cX6_reason 7 (some .char) 10 2 12 [aO 0 0, aI a, aI t, aI b, aI c', aI w] ad (cnt ns nt) M (okR (oReason a t b c' w S P nx)) (exR (oReason a t b c' w S P nx) [eIO, eIA]) := by
  have hR' := hR
  obtain ⟨hCl, hSh, ⟨f, hM⟩, hSt, hRm, hTr⟩ := hR'
  refine Con.of hl pl_X6 (Nat.le_of_ble_eq_true rfl) ?_
  intro D cA p e s m args below meth c C hr
  have X0 : ∀ (E9 : String) (M9 : Mem), (E9 = eIO ∧ M9 = M ∧ ¬ (0 ≤ a ∧ a < nsS S)) → exR (oReason a t b c' w S P nx) [eIO, eIA] E9 M9 := fun E9 M9 h9 => by
    obtain ⟨rfl, rfl, h9⟩ := h9
    exact exR_of (i := 0) (by unfold oReason; rw [if_pos h9]) rfl hR
  have X1 : (0 ≤ a ∧ a < nsS S) → ∀ (E9 : String) (M9 : Mem), (E9 = eIA ∧ M9 = M ∧ ¬ (0 ≤ t ∧ t ≤ 3)) → exR (oReason a t b c' w S P nx) [eIO, eIA] E9 M9 := fun hj E9 M9 h9 => by
    obtain ⟨rfl, rfl, h9⟩ := h9
    exact exR_of (i := 1) (by unfold oReason; rw [if_neg (fun q => q hj), if_pos h9]) rfl hR
  refine w_aload_n C dX6_reason_0 rfl ?_
  refine w_iload_n C dX6_reason_1 rfl ?_
  refine w_callV C dX6_reason_2 (c_X6_shapeOrThrow hl hI.1 hRm a ha) mX6_shapeOrThrow vX6_shapeOrThrow lk_X6_131 (by first | assumption | exact Nat.zero_lt_one | exact Nat.zero_lt_two | exact Nat.one_lt_two) rfl rfl rfl rfl ⟨by decide, by decide, by decide, by decide⟩ (Nat.le_of_ble_eq_true rfl) X0 ⟨by decide, by decide⟩ (fun r_ M_ q2 => ?_)
  obtain ⟨rfl, hj, rfl⟩ := q2
  refine w_astore C dX6_reason_5 (by decide) ?_
  refine w_iload_n C dX6_reason_7 rfl ?_
  refine w_callS C dX6_reason_8 (c_X6_checkTurns hl t ht) mX6_checkTurns sX6_checkTurns lk_X6_177 rfl rfl ⟨by decide, by decide, by decide, by decide⟩ (Nat.le_of_ble_eq_true rfl) (X1 hj) ⟨by decide, by decide⟩ (fun r_ M_ q8 => ?_)
  obtain ⟨rfl, htt, rfl⟩ := q8
  obtain ⟨t, rfl⟩ := Int.eq_ofNat_of_zero_le htt.1
  have hrs : 0 ≤ reasonS S P a.toNat t w b c' ∧ reasonS S P a.toNat t w b c' ≤ 127 := by
    unfold reasonS
    (repeat' split) <;> omega
  refine w_aload_n C dX6_reason_11 rfl ?_
  refine g_X6_19 C dX6_reason_12 (by first | assumption | exact Nat.zero_lt_one | exact Nat.zero_lt_two | exact Nat.one_lt_two) ?_
  refine w_aload_n C dX6_reason_15 rfl ?_
  refine g_X6_12 C dX6_reason_16 (by first | assumption | exact Nat.zero_lt_one | exact Nat.zero_lt_two | exact Nat.one_lt_two) ?_
  refine w_aload C dX6_reason_19 rfl ?_
  refine w_iload_n C dX6_reason_21 rfl ?_
  refine w_iload_n C dX6_reason_22 rfl ?_
  refine w_iload C dX6_reason_23 rfl ?_
  refine w_iload C dX6_reason_25 rfl ?_
  refine w_callV C dX6_reason_27 (c_X1_obstacle hl hI.1 (show inD (cnt ns nt) 2 0 from Nat.zero_lt_two) hI.2.2.1 hCl hSh hM hns (show a.toNat < nsS S by omega) t w (by omega) hw b c' hb hc) mX1_obstacle vX1_obstacle lk_X6_181 (by first | assumption | exact Nat.zero_lt_one | exact Nat.zero_lt_two | exact Nat.one_lt_two) rfl rfl rfl rfl ⟨by decide, by decide, by decide, by decide⟩ (Nat.le_of_ble_eq_true rfl) (fun _ _ h => h.elim) ⟨by decide, by decide⟩ (fun r_ M_ q27 => ?_)
  obtain ⟨rfl, rfl⟩ := q27
  refine w_iret C hr dX6_reason_30 (narrow_c (by omega)).1 (okR_of (by unfold oReason; rw [if_neg (fun q => q hj), if_neg (fun q => q htt), Int.toNat_natCast]) rfl hR) (by decide) (by decide)
theorem c_X6_lay (hl : l.stackTraces = false) {S : Sg} {P : List Pc} {nx : Nat} (hI : Inv S P nx) (hnx : nx < 1000000) (hns : nsS S ≤ ns) (hR : RepRoom S P nx M) (a t b c' : Int) (w : Nat) (hw : w ≤ 1) (ha : -2147483648 ≤ a ∧ a ≤ 2147483647) (ht : -2147483648 ≤ t ∧ t ≤ 2147483647) (hb : -2147483648 ≤ b ∧ b ≤ 2147483647) (hc : -2147483648 ≤ c' ∧ c' ≤ 2147483647) : Con l b0 yX6_lay cX6_lay 7 (some .int) 10 3 18 [aO 0 0, aI a, aI t, aI b, aI c', aI w] ad (cnt ns nt) M (okR (oLay a t b c' w S P nx)) (exR (oLay a t b c' w S P nx) [eIO, eIA, eUO, eIS]) := by
  have hR' := hR
  obtain ⟨hCl, hSh, hMk, hSt, hRm, hTr⟩ := hR'
  have hMk' := hMk
  obtain ⟨f, hM⟩ := hMk'
  have hP40 := hI.2.2.1
  refine Con.of hl pl_X6 (Nat.le_of_ble_eq_true rfl) ?_
  intro D cA p e s m args below meth c C hr
  have X0 : ∀ (E9 : String) (M9 : Mem), (E9 = eIO ∧ M9 = M ∧ ¬ (0 ≤ a ∧ a < nsS S)) → exR (oLay a t b c' w S P nx) [eIO, eIA, eUO, eIS] E9 M9 := fun E9 M9 h9 => by
    obtain ⟨rfl, rfl, h9⟩ := h9
    exact exR_of (i := 0) (by unfold oLay; rw [if_pos h9]) rfl hR
  have X1 : (0 ≤ a ∧ a < nsS S) → ∀ (E9 : String) (M9 : Mem), (E9 = eIA ∧ M9 = M ∧ ¬ (0 ≤ t ∧ t ≤ 3)) → exR (oLay a t b c' w S P nx) [eIO, eIA, eUO, eIS] E9 M9 := fun hj E9 M9 h9 => by
    obtain ⟨rfl, rfl, h9⟩ := h9
    exact exR_of (i := 1) (by unfold oLay; rw [if_neg (fun q => q hj), if_pos h9]) rfl hR
  refine w_aload_n C dX6_lay_0 rfl ?_
  refine w_iload_n C dX6_lay_1 rfl ?_
  refine w_callV C dX6_lay_2 (c_X6_shapeOrThrow hl hI.1 hRm a ha) mX6_shapeOrThrow vX6_shapeOrThrow lk_X6_131 (by first | assumption | exact Nat.zero_lt_one | exact Nat.zero_lt_two | exact Nat.one_lt_two) rfl rfl rfl rfl ⟨by decide, by decide, by decide, by decide⟩ (Nat.le_of_ble_eq_true rfl) X0 ⟨by decide, by decide⟩ (fun r_ M_ q2 => ?_)
  obtain ⟨rfl, hj, rfl⟩ := q2
  refine w_astore C dX6_lay_5 (by decide) ?_
  refine w_iload_n C dX6_lay_7 rfl ?_
  refine w_callS C dX6_lay_8 (c_X6_checkTurns hl t ht) mX6_checkTurns sX6_checkTurns lk_X6_177 rfl rfl ⟨by decide, by decide, by decide, by decide⟩ (Nat.le_of_ble_eq_true rfl) (X1 hj) ⟨by decide, by decide⟩ (fun r_ M_ q8 => ?_)
  obtain ⟨rfl, htt, rfl⟩ := q8
  obtain ⟨t, rfl⟩ := Int.eq_ofNat_of_zero_le htt.1
  have hrs : 0 ≤ reasonS S P a.toNat t w b c' ∧ reasonS S P a.toNat t w b c' ≤ 127 := by
    unfold reasonS
    (repeat' split) <;> omega
  have Eq : oLay a t b c' w S P nx = if reasonS S P a.toNat t w b c' ≠ 45 then (3, 0, S, P, nx) else if 40 ≤ P.length then (4, 0, S, P, nx) else (0, (nx : Int), S, P ++ [(nx, a.toNat, t, b.toNat, c'.toNat, w)], nx + 1) := by
    unfold oLay
    rw [if_neg (fun q => q hj), if_neg (fun q => q htt), Int.toNat_natCast]
  refine w_aload_n C dX6_lay_11 rfl ?_
  refine g_X6_19 C dX6_lay_12 (by first | assumption | exact Nat.zero_lt_one | exact Nat.zero_lt_two | exact Nat.one_lt_two) ?_
  refine w_aload_n C dX6_lay_15 rfl ?_
  refine g_X6_12 C dX6_lay_16 (by first | assumption | exact Nat.zero_lt_one | exact Nat.zero_lt_two | exact Nat.one_lt_two) ?_
  refine w_aload C dX6_lay_19 rfl ?_
  refine w_iload_n C dX6_lay_21 rfl ?_
  refine w_iload_n C dX6_lay_22 rfl ?_
  refine w_iload C dX6_lay_23 rfl ?_
  refine w_iload C dX6_lay_25 rfl ?_
  refine w_callV C dX6_lay_27 (c_X1_obstacle hl hI.1 (show inD (cnt ns nt) 2 0 from Nat.zero_lt_two) hP40 hCl hSh hM hns (show a.toNat < nsS S by omega) t w (by omega) hw b c' hb hc) mX1_obstacle vX1_obstacle lk_X6_181 (by first | assumption | exact Nat.zero_lt_one | exact Nat.zero_lt_two | exact Nat.one_lt_two) rfl rfl rfl rfl ⟨by decide, by decide, by decide, by decide⟩ (Nat.le_of_ble_eq_true rfl) (fun _ _ h => h.elim) ⟨by decide, by decide⟩ (fun r_ M_ q27 => ?_)
  obtain ⟨rfl, rfl⟩ := q27
  refine w_bipush (v := 45) C dX6_lay_30 rfl ?_
  refine w_icmp_eq C dX6_lay_32 (by omega) (by omega) (fun h32 => ?_) (fun h32 => ?_)
  · have hf := reason_free h32
    refine w_aload_n C dX6_lay_45 rfl ?_
    refine g_X6_19 C dX6_lay_46 (by first | assumption | exact Nat.zero_lt_one | exact Nat.zero_lt_two | exact Nat.one_lt_two) ?_
    refine w_callV C dX6_lay_49 (c_X1_isFull hl (show inD (cnt ns nt) 2 0 from Nat.zero_lt_two) hM.1 hP40) mX1_isFull vX1_isFull lk_X6_187 (by first | assumption | exact Nat.zero_lt_one | exact Nat.zero_lt_two | exact Nat.one_lt_two) rfl rfl rfl rfl ⟨by decide, by decide, by decide, by decide⟩ (Nat.le_of_ble_eq_true rfl) (fun _ _ h => h.elim) ⟨by decide, by decide⟩ (fun r_ M_ q49 => ?_)
    obtain ⟨rfl, rfl⟩ := q49
    have h01 := b2_01 (40 ≤ P.length)
    refine w_if_eq C dX6_lay_52 (by omega) (fun h52 => ?_) (fun h52 => ?_)
    · have hP : P.length < 40 := by
        refine Nat.lt_of_not_le fun q => ?_
        rw [b2_t q] at h52
        omega
      obtain ⟨u, rfl⟩ := Int.eq_ofNat_of_zero_le hf.2.2.2.1.1.1
      obtain ⟨v, rfl⟩ := Int.eq_ofNat_of_zero_le hf.2.2.2.1.2.1
      rw [Int.toNat_natCast, Int.toNat_natCast] at Eq
      refine w_aload_n C dX6_lay_65 rfl ?_
      refine g_X6_19 C dX6_lay_66 (by first | assumption | exact Nat.zero_lt_one | exact Nat.zero_lt_two | exact Nat.one_lt_two) ?_
      refine w_aload_n C dX6_lay_69 rfl ?_
      refine g_X6_12 C dX6_lay_70 (by first | assumption | exact Nat.zero_lt_one | exact Nat.zero_lt_two | exact Nat.one_lt_two) ?_
      refine w_aload C dX6_lay_73 rfl ?_
      refine w_iload_n C dX6_lay_75 rfl ?_
      refine w_iload_n C dX6_lay_76 rfl ?_
      refine w_iload C dX6_lay_77 rfl ?_
      refine w_iload C dX6_lay_79 rfl ?_
      refine w_callV C dX6_lay_81 (c_X1_put hl hI.1 (show inD (cnt ns nt) 2 0 from Nat.zero_lt_two) hP hCl hSh hMk hI.2.1 hns (show a.toNat < nsS S by omega) t w (by omega) hw u v h32 hnx) mX1_put vX1_put lk_X6_193 (by first | assumption | exact Nat.zero_lt_one | exact Nat.zero_lt_two | exact Nat.one_lt_two) rfl rfl rfl rfl ⟨by decide, by decide, by decide, by decide⟩ (Nat.le_of_ble_eq_true rfl) (fun _ _ h => h.elim) ⟨by decide, by decide⟩ (fun r_ M2 q81 => ?_)
      obtain ⟨k1, k2, rfl⟩ := q81
      refine w_iret C hr dX6_lay_84 rfl (okR_of (by rw [Eq, if_neg (fun q => q h32), if_neg (by omega)]) rfl (RepRoom.mk k1 k2 hR)) (by decide) (by decide)
    · refine w_throw C tk_66_70 ts_191 dX6_lay_55 dX6_lay_58 dX6_lay_59 dX6_lay_61 dX6_lay_64 ⟨by decide, by decide, by decide, by decide⟩ (Nat.le_of_ble_eq_true rfl) (exR_of (i := 3) (by rw [Eq, if_neg (fun q => q h32), if_pos (Decidable.byContradiction fun q => h52 (b2_f q))]) rfl hR) (by decide) (by decide)
  · refine w_throw C tk_96_100 ts_185 dX6_lay_35 dX6_lay_38 dX6_lay_39 dX6_lay_41 dX6_lay_44 ⟨by decide, by decide, by decide, by decide⟩ (Nat.le_of_ble_eq_true rfl) (exR_of (i := 2) (by rw [Eq, if_pos h32]) rfl hR) (by decide) (by decide)
theorem c_X6_nest (hl : l.stackTraces = false) {S : Sg} {P : List Pc} {nx : Nat} (hI : Inv S P nx) (hnx : nx < 1000000) (hns : nsS S ≤ ns) (hR : RepRoom S P nx M) (a : Int) (w : Nat) (hw : w ≤ 1) (ha : -2147483648 ≤ a ∧ a ≤ 2147483647) (z : Int) (hz : FSp S P a.toNat w z) : Con l b0 yX6_nest cX6_nest 5 (some .int) 10 2 12 [aO 0 0, aI a, aI w] ad (cnt ns nt) M (okR (oNest a w z S P nx)) (exR (oNest a w z S P nx) [eIO, eNS, eIS]) := by
  have hR' := hR
  obtain ⟨hCl, hSh, hMk, hSt, hRm, hTr⟩ := hR'
  have hMk' := hMk
  obtain ⟨f, hM⟩ := hMk'
  have hP40 := hI.2.2.1
  refine Con.of hl pl_X6 (Nat.le_of_ble_eq_true rfl) ?_
  intro D cA p e s m args below meth c C hr
  have X0 : ∀ (E9 : String) (M9 : Mem), (E9 = eIO ∧ M9 = M ∧ ¬ (0 ≤ a ∧ a < nsS S)) → exR (oNest a w z S P nx) [eIO, eNS, eIS] E9 M9 := fun E9 M9 h9 => by
    obtain ⟨rfl, rfl, h9⟩ := h9
    exact exR_of (i := 0) (by unfold oNest; rw [if_pos h9]) rfl hR
  refine w_aload_n C dX6_nest_0 rfl ?_
  refine w_iload_n C dX6_nest_1 rfl ?_
  refine w_callV C dX6_nest_2 (c_X6_shapeOrThrow hl hI.1 hRm a ha) mX6_shapeOrThrow vX6_shapeOrThrow lk_X6_131 (by first | assumption | exact Nat.zero_lt_one | exact Nat.zero_lt_two | exact Nat.one_lt_two) rfl rfl rfl rfl ⟨by decide, by decide, by decide, by decide⟩ (Nat.le_of_ble_eq_true rfl) X0 ⟨by decide, by decide⟩ (fun r_ M_ q2 => ?_)
  obtain ⟨rfl, hj, rfl⟩ := q2
  have Eq : oNest a w z S P nx = if z = -1 then (2, 0, S, P, nx) else if 40 ≤ P.length then (3, 0, S, P, nx) else (0, (nx : Int), S, P ++ [(nx, a.toNat, z.toNat % 4, z.toNat / 4 / 12, z.toNat / 4 % 12, w)], nx + 1) := by
    unfold oNest
    rw [if_neg (fun q => q hj)]
  refine w_astore_n C dX6_nest_5 (by decide) ?_
  refine w_aload_n C dX6_nest_6 rfl ?_
  refine g_X6_19 C dX6_nest_7 (by first | assumption | exact Nat.zero_lt_one | exact Nat.zero_lt_two | exact Nat.one_lt_two) ?_
  refine w_aload_n C dX6_nest_10 rfl ?_
  refine g_X6_12 C dX6_nest_11 (by first | assumption | exact Nat.zero_lt_one | exact Nat.zero_lt_two | exact Nat.one_lt_two) ?_
  refine w_aload_n C dX6_nest_14 rfl ?_
  refine w_iload_n C dX6_nest_15 rfl ?_
  refine w_callV C dX6_nest_16 (c_X1_firstSpot hl hI.1 (show inD (cnt ns nt) 2 0 from Nat.zero_lt_two) hP40 hCl hSh hM hns (show a.toNat < nsS S by omega) w hw) mX1_firstSpot vX1_firstSpot lk_X6_199 (by first | assumption | exact Nat.zero_lt_one | exact Nat.zero_lt_two | exact Nat.one_lt_two) rfl rfl rfl rfl ⟨by decide, by decide, by decide, by decide⟩ (Nat.le_of_ble_eq_true rfl) (fun _ _ h => h.elim) ⟨by decide, by decide⟩ (fun r_ M_ q16 => ?_)
  obtain ⟨rfl, z', rfl, hz'⟩ := q16
  have ez := hz'.uniq hz
  subst ez
  have hzb : -1 ≤ z' ∧ z' < 2880 := by
    rcases hz' with ⟨q, -⟩ | ⟨x, q1, q2, -⟩ <;> omega
  refine w_istore C dX6_nest_19 (by decide) ?_
  refine w_iload C dX6_nest_21 rfl ?_
  refine w_iconst C dX6_nest_23 ?_
  refine w_icmp_ne C dX6_nest_24 (by omega) (by omega) (fun h24 => ?_) (fun h24 => ?_)
  · refine w_aload_n C dX6_nest_37 rfl ?_
    refine g_X6_19 C dX6_nest_38 (by first | assumption | exact Nat.zero_lt_one | exact Nat.zero_lt_two | exact Nat.one_lt_two) ?_
    refine w_callV C dX6_nest_41 (c_X1_isFull hl (show inD (cnt ns nt) 2 0 from Nat.zero_lt_two) hM.1 hP40) mX1_isFull vX1_isFull lk_X6_187 (by first | assumption | exact Nat.zero_lt_one | exact Nat.zero_lt_two | exact Nat.one_lt_two) rfl rfl rfl rfl ⟨by decide, by decide, by decide, by decide⟩ (Nat.le_of_ble_eq_true rfl) (fun _ _ h => h.elim) ⟨by decide, by decide⟩ (fun r_ M_ q41 => ?_)
    obtain ⟨rfl, rfl⟩ := q41
    have h01 := b2_01 (40 ≤ P.length)
    refine w_if_eq C dX6_nest_44 (by omega) (fun h44 => ?_) (fun h44 => ?_)
    · have hP : P.length < 40 := by
        refine Nat.lt_of_not_le fun q => ?_
        rw [b2_t q] at h44
        omega
      have hz9 : ∃ x : Nat, x < 2880 ∧ z' = x ∧ free S P a.toNat w x := by
        rcases hz' with ⟨q, -⟩ | ⟨x, q1, q2, q3, -⟩
        · exact absurd q h24
        · exact ⟨x, q1, q2, q3⟩
      obtain ⟨x, x1, rfl, x3⟩ := hz9
      rw [Int.toNat_natCast] at Eq
      refine w_aload_n C dX6_nest_57 rfl ?_
      refine g_X6_19 C dX6_nest_58 (by first | assumption | exact Nat.zero_lt_one | exact Nat.zero_lt_two | exact Nat.one_lt_two) ?_
      refine w_aload_n C dX6_nest_61 rfl ?_
      refine g_X6_12 C dX6_nest_62 (by first | assumption | exact Nat.zero_lt_one | exact Nat.zero_lt_two | exact Nat.one_lt_two) ?_
      refine w_aload_n C dX6_nest_65 rfl ?_
      refine w_iload C dX6_nest_66 rfl ?_
      refine w_iload_n C dX6_nest_68 rfl ?_
      refine w_callV C dX6_nest_69 (c_X1_putAtSpot hl hI.1 (show inD (cnt ns nt) 2 0 from Nat.zero_lt_two) hP hCl hSh hMk hI.2.1 hns (show a.toNat < nsS S by omega) w hw x x1 x3 hnx) mX1_putAtSpot vX1_putAtSpot lk_X6_208 (by first | assumption | exact Nat.zero_lt_one | exact Nat.zero_lt_two | exact Nat.one_lt_two) rfl rfl rfl rfl ⟨by decide, by decide, by decide, by decide⟩ (Nat.le_of_ble_eq_true rfl) (fun _ _ h => h.elim) ⟨by decide, by decide⟩ (fun r_ M2 q69 => ?_)
      obtain ⟨k1, k2, rfl⟩ := q69
      refine w_iret C hr dX6_nest_72 rfl (okR_of (by rw [Eq, if_neg h24, if_neg (by omega)]) rfl (RepRoom.mk k1 k2 hR)) (by decide) (by decide)
    · refine w_throw C tk_66_70 ts_191 dX6_nest_47 dX6_nest_50 dX6_nest_51 dX6_nest_53 dX6_nest_56 ⟨by decide, by decide, by decide, by decide⟩ (Nat.le_of_ble_eq_true rfl) (exR_of (i := 2) (by rw [Eq, if_neg h24, if_pos (Decidable.byContradiction fun q => h44 (b2_f q))]) rfl hR) (by decide) (by decide)
  · refine w_throwN C ts_205 dX6_nest_27 dX6_nest_30 dX6_nest_31 dX6_nest_33 dX6_nest_36 ⟨by decide, by decide, by decide, by decide⟩ (Nat.le_of_ble_eq_true rfl) (exR_of (i := 1) (by rw [Eq, if_pos (Decidable.not_not.mp h24)]) rfl hR) (by decide) (by decide)
end Rm
