/-! the room: addPart, checkGarments, isSound -/
section Rm
variable {l : Launch} {b0 : Nat → Prop} {ad : Ads} {ns nt : Nat} {M : Mem}
theorem GInv.part {S : Sg} (hG : GInv S) (y j v : Nat) (hv : v ≤ 4) : GInv (up3 S 16 y j v) := by
  obtain ⟨g1, g2, g3, g4, g5, g6, g7, g8, g9, g10, g11, g12⟩ := hG
  refine ⟨g1, g2, g3, g4, g5, g6, g7, g8, g9, g10, fun y' j' => ?_, g12⟩
  simp only [ctS, up3]
  split
  · exact hv
  · exact g11 y' j'
theorem eS_part {S : Sg} {y j v : Nat} (hm : mdS S y = 0) (i : Nat) : eS (up3 S 16 y j v) i = eS S i := by
  unfold eS garS
  have e : sumN (fun y' => mdS (up3 S 16 y j v) y' * (ctS (up3 S 16 y j v) y' i * pppS (up3 S 16 y j v) i)) 4 = sumN (fun y' => mdS S y' * (ctS S y' i * pppS S i)) 4 := sumN_cg fun y' _ => by
    show mdS S y' * (ctS (up3 S 16 y j v) y' i * pppS S i) = mdS S y' * (ctS S y' i * pppS S i)
    by_cases h : y' = y
    · subst h
      rw [hm, Nat.zero_mul, Nat.zero_mul]
    · have : ctS (up3 S 16 y j v) y' i = ctS S y' i := by
        simp only [ctS, up3]
        rw [if_neg (fun q => h q.2.1)]
      rw [this]
  rw [e]
  rfl
theorem c_X6_addPart (hl : l.stackTraces = false) {S : Sg} {P : List Pc} {nx : Nat} (hI : Inv S P nx) (hmd : ∀ y, mdS S y < 1000000) (hns : nsS S ≤ ns) (hnt : ntS S ≤ nt) (hR : RepRoom S P nx M) (a b c' : Int) (ha : -2147483648 ≤ a ∧ a ≤ 2147483647) (hb : -2147483648 ≤ b ∧ b ≤ 2147483647) (hc : -2147483648 ≤ c' ∧ c' ≤ 2147483647) : Con l b0 yX6_addPart cX6_addPart 5 (some .int) 10 3 18 [aO 0 0, aI a, aI b, aI c'] ad (cnt ns nt) M (okR (oAddPart a b c' S P nx)) (exR (oAddPart a b c' S P nx) [eIO, eIA, eUO]) := by
  have hR' := hR
  obtain ⟨hCl, hSh, hM, hSt, hRm, hTr⟩ := hR'
  have b1 := b2_01 (1 ≤ c' ∧ c' ≤ 4)
  have g6 := hI.1.2.2.2.2.2.1
  refine Con.of hl pl_X6 (Nat.le_of_ble_eq_true rfl) ?_
  intro D cA p e s m args below meth c C hr
  have X0 : ∀ (E9 : String) (M9 : Mem), (E9 = eIO ∧ M9 = M ∧ ¬ (0 ≤ a ∧ a < ntS S)) → exR (oAddPart a b c' S P nx) [eIO, eIA, eUO] E9 M9 := fun E9 M9 h9 => by
    obtain ⟨rfl, rfl, h9⟩ := h9
    exact exR_of (i := 0) (by unfold oAddPart; rw [if_pos (Or.inl h9)]) rfl hR
  have X1 : ∀ (E9 : String) (M9 : Mem), (E9 = eIO ∧ M9 = M ∧ ¬ (0 ≤ b ∧ b < nsS S)) → exR (oAddPart a b c' S P nx) [eIO, eIA, eUO] E9 M9 := fun E9 M9 h9 => by
    obtain ⟨rfl, rfl, h9⟩ := h9
    exact exR_of (i := 0) (by unfold oAddPart; rw [if_pos (Or.inr h9)]) rfl hR
  have T53 : ∀ lv, (0 ≤ a ∧ a < ntS S) → (0 ≤ b ∧ b < nsS S) → (1 ≤ c' ∧ c' ≤ 4) → (0 < ctS S a.toNat b.toNat ∨ 0 < mdS S a.toNat) → Wm p l e (rmd 10 3 18) s m args below meth c 5 D cA b0 2 12 (vx_MQ below (mQ D cA b0 ad (cnt ns nt) (okR (oAddPart a b c' S P nx))) (mX D cA b0 ad (cnt ns nt) (exR (oAddPart a b c' S P nx) [eIO, eIA, eUO])) args s 3 18 b0) 53 lv [] ad (cnt ns nt) M := by
    intro lv h1 h2 h3 h4
    refine w_throwW C tk_96_100 ts_291 dX6_addPart_53 dX6_addPart_56 dX6_addPart_57 dX6_addPart_60 dX6_addPart_63 ⟨by decide, by decide, by decide, by decide⟩ (Nat.le_of_ble_eq_true rfl) (exR_of (i := 2) (by unfold oAddPart; rw [if_neg (by rintro (q | q); exact q h1; exact q h2), if_neg (fun q => q h3), if_pos h4]) rfl hR) (by decide) (by decide)
  refine w_aload_n C dX6_addPart_0 rfl ?_
  refine w_iload_n C dX6_addPart_1 rfl ?_
  refine w_callV C dX6_addPart_2 (c_X6_styleOrThrow hl hI.1 hRm a ha) mX6_styleOrThrow vX6_styleOrThrow lk_X6_279 (by first | assumption | exact Nat.zero_lt_one | exact Nat.zero_lt_two | exact Nat.one_lt_two) rfl rfl rfl rfl ⟨by decide, by decide, by decide, by decide⟩ (Nat.le_of_ble_eq_true rfl) X0 ⟨by decide, by decide⟩ (fun r_ M_ q2 => ?_)
  obtain ⟨rfl, hj, rfl⟩ := q2
  have i6 : inD (cnt ns nt) 6 a.toNat := by
    show a.toNat < nt
    omega
  have i32 : inD (cnt ns nt) 32 a.toNat := i6
  obtain ⟨hct, hmdr⟩ := hSt a.toNat (by omega)
  refine w_astore C dX6_addPart_5 (by decide) ?_
  refine w_aload_n C dX6_addPart_7 rfl ?_
  refine w_iload_n C dX6_addPart_8 rfl ?_
  refine w_callV C dX6_addPart_9 (c_X6_shapeOrThrow hl hI.1 hRm b hb) mX6_shapeOrThrow vX6_shapeOrThrow lk_X6_131 (by first | assumption | exact Nat.zero_lt_one | exact Nat.zero_lt_two | exact Nat.one_lt_two) rfl rfl rfl rfl ⟨by decide, by decide, by decide, by decide⟩ (Nat.le_of_ble_eq_true rfl) X1 ⟨by decide, by decide⟩ (fun r_ M_ q9 => ?_)
  obtain ⟨rfl, hjb, rfl⟩ := q9
  obtain ⟨u, rfl⟩ := Int.eq_ofNat_of_zero_le hjb.1
  rw [Int.toNat_natCast] at T53 ⊢
  refine w_pop C dX6_addPart_12 rfl ?_
  refine w_iload_n C dX6_addPart_13 rfl ?_
  refine w_iconst C dX6_addPart_14 ?_
  refine w_iconst C dX6_addPart_15 ?_
  refine w_callS C dX6_addPart_16 (c_X6_isWithin hl c' 1 4 (by omega) (by omega) (by omega)) mX6_isWithin sX6_isWithin lk_X6_48 rfl rfl ⟨by decide, by decide, by decide, by decide⟩ (Nat.le_of_ble_eq_true rfl) (fun _ _ h => h.elim) ⟨by decide, by decide⟩ (fun r_ M_ q16 => ?_)
  obtain ⟨rfl, rfl⟩ := q16
  have hc4 := hI.1.2.2.2.2.2.2.2.2.2.2.1 a.toNat u
  have hm9 := hmd a.toNat
  refine w_if_ne C dX6_addPart_19 (by omega) (fun h19 => ?_) (fun h19 => ?_)
  · have y1 : 1 ≤ c' ∧ c' ≤ 4 := Decidable.byContradiction fun q => h19 (b2_f q)
    refine w_aload C dX6_addPart_33 rfl ?_
    refine g_X6_285 C dX6_addPart_35 (by first | assumption | exact Nat.zero_lt_one | exact Nat.zero_lt_two | exact Nat.one_lt_two) ?_
    refine w_iload_n C dX6_addPart_38 rfl ?_
    refine w_callS C dX6_addPart_39 (c_X6_entry hl IA_32 i32 (u : Int) (by omega)) mX6_entry sX6_entry lk_X6_264 rfl rfl ⟨by decide, by decide, by decide, by decide⟩ (Nat.le_of_ble_eq_true rfl) (fun _ _ h => h.elim) ⟨by decide, by decide⟩ (fun r_ M_ q39 => ?_)
    obtain ⟨rfl, rfl⟩ := q39
    rw [rd_ok (by omega), hct u (by omega)]
    refine w_if_gt C dX6_addPart_42 (by omega) (fun h42 => ?_) (fun h42 => ?_)
    · exact T53 _ hj hjb y1 (Or.inl (by omega))
    · refine w_aload C dX6_addPart_45 rfl ?_
      refine g_X6_288 C dX6_addPart_47 (by first | assumption | exact Nat.zero_lt_one | exact Nat.zero_lt_two | exact Nat.one_lt_two) ?_
      rw [hmdr]
      refine w_if_le C dX6_addPart_50 (by omega) (fun h50 => ?_) (fun h50 => ?_)
      · have hm0 : mdS S a.toNat = 0 := by omega
        have hc0 : ¬ (0 < ctS S a.toNat u ∨ 0 < mdS S a.toNat) := by omega
        have hG' := GInv.part hI.1 a.toNat u c'.toNat (by omega)
        refine w_aload C dX6_addPart_64 rfl ?_
        refine g_X6_285 C dX6_addPart_66 (by first | assumption | exact Nat.zero_lt_one | exact Nat.zero_lt_two | exact Nat.one_lt_two) ?_
        refine w_iload_n C dX6_addPart_69 rfl ?_
        refine w_iload_n C dX6_addPart_70 rfl ?_
        refine w_callS C dX6_addPart_71 (c_X6_store hl IA_32 i32 (u : Int) c' (by omega)) mX6_store sX6_store lk_X6_293 rfl rfl ⟨by decide, by decide, by decide, by decide⟩ (Nat.le_of_ble_eq_true rfl) (fun _ _ h => h.elim) ⟨by decide, by decide⟩ (fun r_ M_ q71 => ?_)
        obtain ⟨q71, rfl⟩ := q71
        rw [wr_ok (by omega)] at q71
        subst q71
        have hF : Fr (fun k i => k = 32 ∧ i = a.toNat) M_ (uI M_ 32 a.toNat u c') := Fr.rf.uI ⟨rfl, rfl⟩
        have n0 : ∀ {k i : Nat}, k ≠ 32 → ¬ (k = 32 ∧ i = a.toNat) := fun h q => h q.1
        have hRm2 : RepRm (up3 S 16 a.toNat u c'.toNat) (uI M_ 32 a.toNat u c') := RepRm.fr hF (n0 (by decide)) (n0 (by decide)) (n0 (by decide)) hRm
        have hSh1 : RepSh S (uI M_ 32 a.toNat u c') := RepSh.fr hF (fun i => ⟨n0 (by decide), n0 (by decide), n0 (by decide), n0 (by decide), n0 (by decide)⟩) hSh
        have hSh2 : RepSh (up3 S 16 a.toNat u c'.toNat) (uI M_ 32 a.toNat u c') := fun i hi => by
          obtain ⟨s1, ⟨s2, s3, s4⟩, s5⟩ := hSh1 i hi
          exact ⟨s1, ⟨s2, s3, by rw [eS_part hm0]; exact s4⟩, s5⟩
        have hSt2 : RepSt (up3 S 16 a.toNat u c'.toNat) (uI M_ 32 a.toNat u c') := fun y hy => by
          obtain ⟨t1, t2⟩ := hSt y hy
          refine ⟨fun j hj8 => ?_, t2⟩
          rw [uI_get]
          show _ = ((if 16 = 16 ∧ y = a.toNat ∧ j = u then c'.toNat else S 16 y j : Nat) : Int)
          by_cases h : y = a.toNat ∧ j = u
          · rw [if_pos ⟨rfl, h.1, h.2⟩, if_pos ⟨rfl, h.1, h.2⟩]
            omega
          · rw [if_neg (fun q => h ⟨q.2.1, q.2.2⟩), if_neg (fun q => h ⟨q.2.1, q.2.2⟩)]
            exact t1 j hj8
        refine w_aload_n C dX6_addPart_74 rfl ?_
        refine w_aload C dX6_addPart_75 rfl ?_
        refine w_callV C dX6_addPart_77 (c_X6_piecesOfGarment hl hG' hRm2 hSh2 hns i6 (hSt2 a.toNat (by show a.toNat < ntS S; omega)).1) mX6_piecesOfGarment vX6_piecesOfGarment lk_X6_297 (by first | assumption | exact Nat.zero_lt_one | exact Nat.zero_lt_two | exact Nat.one_lt_two) rfl rfl rfl rfl ⟨by decide, by decide, by decide, by decide⟩ (Nat.le_of_ble_eq_true rfl) (fun _ _ h => h.elim) ⟨by decide, by decide⟩ (fun r_ M_ q77 => ?_)
        obtain ⟨rfl, rfl⟩ := q77
        refine w_iret C hr dX6_addPart_80 rfl (okR_of (S' := up3 S 16 a.toNat u c'.toNat) (P' := P) (nx' := nx) (by unfold oAddPart; rw [if_neg (by rintro (q | q); exact q hj; exact q hjb), if_neg (fun q => q y1), Int.toNat_natCast, if_neg hc0]) rfl ⟨RepCl.fr hF (n0 (by decide)) (n0 (by decide)) (n0 (by decide)) hCl, hSh2, RepMk.cg (S := S) (fun p _ => ⟨rfl, rfl, rfl, rfl⟩) (fun _ => rfl) (RepMk.fr hI.2.2.1 hF ⟨n0 (by decide), n0 (by decide), n0 (by decide), n0 (by decide), n0 (by decide), n0 (by decide)⟩ (fun _ _ => n0 (by decide)) hM), hSt2, hRm2, TrOK.fr hF (n0 (by decide)) hTr⟩) (by decide) (by decide)
      · exact T53 _ hj hjb y1 (Or.inr (by omega))
  · refine w_throwW C tk_52_56 ts_283 dX6_addPart_22 dX6_addPart_25 dX6_addPart_26 dX6_addPart_29 dX6_addPart_32 ⟨by decide, by decide, by decide, by decide⟩ (Nat.le_of_ble_eq_true rfl) (exR_of (i := 1) (by unfold oAddPart; rw [if_neg (by rintro (q | q); exact q hj; exact q hjb), if_pos (fun q => h19 (by rw [b2_t q]; decide))]) rfl hR) (by decide) (by decide)
end Rm
