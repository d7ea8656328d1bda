/-! the room: styles, the roll, stock reads -/
def takS (S : Sg) (y : Nat) : Nat := sumN (fun j => ctS S y j * pppS S j) (nsS S)
def oPiecesFor (a : Int) (S : Sg) (P : List Pc) (nx : Nat) : Res := if ¬ (0 ≤ a ∧ a < ntS S) then (1, 0, S, P, nx) else (0, (takS S a.toNat : Int), S, P, nx)
def oMade (a : Int) (S : Sg) (P : List Pc) (nx : Nat) : Res := if ¬ (0 ≤ a ∧ a < ntS S) then (1, 0, S, P, nx) else (0, (mdS S a.toNat : Int), S, P, nx)
def oAddPart (a b c : Int) (S : Sg) (P : List Pc) (nx : Nat) : Res := if ¬ (0 ≤ a ∧ a < ntS S) ∨ ¬ (0 ≤ b ∧ b < nsS S) then (1, 0, S, P, nx) else if ¬ (1 ≤ c ∧ c ≤ 4) then (2, 0, S, P, nx) else if 0 < ctS S a.toNat b.toNat ∨ 0 < mdS S a.toNat then (3, 0, S, P, nx) else (0, (takS (up3 S 16 a.toNat b.toNat c.toNat) a.toNat : Int), up3 S 16 a.toNat b.toNat c.toNat, P, nx)
def oAddCloth (a : Int) (S : Sg) (P : List Pc) (nx : Nat) : Res := if ¬ (1 ≤ a ∧ a ≤ 9999) ∨ 999999 < (rlS S : Int) + a then (1, 0, S, P, nx) else (0, (rlS S : Int) + a, up3 S 18 0 0 (rlS S + a.toNat), P, nx)
def oRoll (S : Sg) (P : List Pc) (nx : Nat) : Res := (0, (rlS S : Int), S, P, nx)
def oPieces (a : Int) (w : Nat) (S : Sg) (P : List Pc) (nx : Nat) : Res := if ¬ (0 ≤ a ∧ a < nsS S) then (1, 0, S, P, nx) else if w = 1 ∧ paS S a.toNat = 0 then (2, 0, S, P, nx) else (0, (stS S a.toNat w : Int), S, P, nx)
theorem sumN_le {f : Nat → Nat} {b n : Nat} (h : ∀ i, i < n → f i ≤ b) : sumN f n ≤ n * b := by
  induction n with
  | zero => exact Nat.zero_le _
  | succ n ih =>
    unfold sumN
    have h1 := ih fun i hi => h i (by omega)
    have h2 := h n (by omega)
    rw [Nat.succ_mul]
    omega
theorem sumN_cg {f g : Nat → Nat} {n : Nat} (h : ∀ i, i < n → f i = g i) : sumN f n = sumN g n := by
  induction n with
  | zero => rfl
  | succ n ih =>
    unfold sumN
    rw [ih fun i hi => h i (by omega), h n (by omega)]
theorem ppp_le (S : Sg) (j : Nat) : 1 ≤ pppS S j ∧ pppS S j ≤ 2 := by
  unfold pppS
  split <;> omega
theorem cp_le {S : Sg} (hG : GInv S) (y j : Nat) : ctS S y j * pppS S j ≤ 8 := by
  have h1 := hG.2.2.2.2.2.2.2.2.2.2.1 y j
  have h2 := (ppp_le S j).2
  exact Nat.le_trans (Nat.mul_le_mul h1 h2) (by decide)
section Rm
variable {l : Launch} {b0 : Nat → Prop} {ad : Ads} {ns nt : Nat} {M : Mem}
theorem c_X6_styleOrThrow (hl : l.stackTraces = false) {S : Sg} (hG : GInv S) (hRm : RepRm S M) (a : Int) (ha : -2147483648 ≤ a ∧ a ≤ 2147483647) : Con l b0 yX6_styleOrThrow cX6_styleOrThrow 3 (some (.object "CuttingRoom$Style")) 9 1 6 [aO 0 0, aI a] ad (cnt ns nt) M (fun r9 M' => M' = M ∧ (0 ≤ a ∧ a < ntS S) ∧ r9 = some (aO 6 a.toNat)) (fun E M' => E = eIO ∧ M' = M ∧ ¬ (0 ≤ a ∧ a < ntS S)) := by
  obtain ⟨k1, k2, k3, k4, k5⟩ := hRm
  have g6 := hG.2.2.2.2.2.2.1
  refine Con.of hl pl_X6 (Nat.le_of_ble_eq_true rfl) ?_
  intro D cA p e s m args below meth c C hr
  have K23 : ∀ (r : Option (Nat × Nat)), r = (if 0 ≤ a ∧ a < ntS S then some (6, a.toNat) else none) → Wm p l e (rmd 9 1 6) s m args below meth c 3 D cA b0 0 0 (vx_MQ below (mQ D cA b0 ad (cnt ns nt) (fun r9 M' => M' = M ∧ (0 ≤ a ∧ a < ntS S) ∧ r9 = some (aO 6 a.toNat))) (mX D cA b0 ad (cnt ns nt) (fun E M' => E = eIO ∧ M' = M ∧ ¬ (0 ≤ a ∧ a < ntS S))) args s 1 6 b0) 23 [(0, aO 0 0), (1, aI a)] [aR r] ad (cnt ns nt) M := by
    intro r hr9
    subst hr9
    by_cases h : 0 ≤ a ∧ a < ntS S
    · rw [if_pos h]
      refine w_astore_n C dX6_styleOrThrow_23 (by decide) ?_
      refine w_aload_n C dX6_styleOrThrow_24 rfl ?_
      refine w_ifnonnull C dX6_styleOrThrow_25 (fun h25 => ?_) (fun h25 => ?_)
      · refine w_aload_n C dX6_styleOrThrow_39 rfl ?_
        refine w_aret C hr (Or.inl ⟨_, rfl⟩) dX6_styleOrThrow_40 (⟨rfl, h, rfl⟩) (by decide) (by decide)
      · cases h25
    · rw [if_neg h]
      refine w_astore_n C dX6_styleOrThrow_23 (by decide) ?_
      refine w_aload_n C dX6_styleOrThrow_24 rfl ?_
      refine w_ifnonnull C dX6_styleOrThrow_25 (fun h25 => ?_) (fun h25 => ?_)
      · obtain ⟨_, h25⟩ := h25
        cases h25
      · refine w_throwW C tk_172_176 ts_301 dX6_styleOrThrow_28 dX6_styleOrThrow_31 dX6_styleOrThrow_32 dX6_styleOrThrow_35 dX6_styleOrThrow_38 ⟨by decide, by decide, by decide, by decide⟩ (Nat.le_of_ble_eq_true rfl) (⟨rfl, rfl, h⟩) (by decide) (by decide)
  refine w_iload_n C dX6_styleOrThrow_0 rfl ?_
  refine w_if_lt C dX6_styleOrThrow_1 (by omega) (fun h1 => ?_) (fun h1 => ?_)
  · refine w_null C dX6_styleOrThrow_22 ?_
    exact K23 _ (by rw [if_neg (by omega)])
  · refine w_iload_n C dX6_styleOrThrow_4 rfl ?_
    refine w_aload_n C dX6_styleOrThrow_5 rfl ?_
    refine g_X6_31 C dX6_styleOrThrow_6 (by first | assumption | exact Nat.zero_lt_one | exact Nat.zero_lt_two | exact Nat.one_lt_two) ?_
    refine w_alen C dX6_styleOrThrow_9 (show inD (cnt ns nt) 11 0 from Nat.zero_lt_one) (Or.inr (Or.inr (Or.inr ⟨6, 6, by decide, RA_11⟩))) ?_
    refine w_icmp_ge C dX6_styleOrThrow_10 (by omega) (by omega) (fun h10 => ?_) (fun h10 => ?_)
    · refine w_null C dX6_styleOrThrow_22 ?_
      exact K23 _ (by rw [if_neg (by omega)])
    · refine w_aload_n C dX6_styleOrThrow_13 rfl ?_
      refine g_X6_31 C dX6_styleOrThrow_14 (by first | assumption | exact Nat.zero_lt_one | exact Nat.zero_lt_two | exact Nat.one_lt_two) ?_
      refine w_iload_n C dX6_styleOrThrow_17 rfl ?_
      refine w_aald C dX6_styleOrThrow_18 (show inD (cnt ns nt) 11 0 from Nat.zero_lt_one) RA_11 rfl (by omega) ?_
      rw [k5 a.toNat (by omega)]
      refine w_goto C dX6_styleOrThrow_19 ?_
      refine K23 _ ?_
      by_cases h : a.toNat < ntS S
      · rw [if_pos h, if_pos (by omega)]
        rfl
      · rw [if_neg h, if_neg (by omega)]
        rfl
theorem c_X6_piecesOfPart (hl : l.stackTraces = false) {S : Sg} (hG : GInv S) (hRm : RepRm S M) (hSh : RepSh S M) (hns : nsS S ≤ ns) {y : Nat} (hy : inD (cnt ns nt) 6 y) (hct : ∀ j, j < 8 → M.1 32 y j = ctS S y j) (j : Nat) (hj : j < nsS S) : Con l b0 yX6_piecesOfPart cX6_piecesOfPart 5 (some .int) 2 0 0 [aO 0 0, aO 6 y, aI j] ad (cnt ns nt) M (fun r9 M' => M' = M ∧ r9 = some (aI (ctS S y j * pppS S j : Nat))) noX := by
  have g6 := hG.2.2.2.2.2.1
  have hy2 : inD (cnt ns nt) 32 y := hy
  have i4 : inD (cnt ns nt) 4 j := by
    show j < ns
    omega
  have hpa := (hG.2.2.2.2.2.2.2.2.2.1 j).1
  refine Con.of hl pl_X6 (Nat.le_of_ble_eq_true rfl) ?_
  intro D cA p e s m args below meth c C hr
  refine w_aload_n C dX6_piecesOfPart_0 rfl ?_
  refine w_iload_n C dX6_piecesOfPart_1 rfl ?_
  refine w_callV C dX6_piecesOfPart_2 (c_X6_shapeNumbered hl hG hRm (j : Int) (by omega)) mX6_shapeNumbered vX6_shapeNumbered lk_X6_169 (by first | assumption | exact Nat.zero_lt_one | exact Nat.zero_lt_two | exact Nat.one_lt_two) rfl rfl rfl rfl ⟨by decide, by decide, by decide, by decide⟩ (Nat.le_of_ble_eq_true rfl) (fun _ _ h => h.elim) ⟨by decide, by decide⟩ (fun r_ M_ q2 => ?_)
  obtain ⟨rfl, rfl⟩ := q2
  rw [if_pos (by omega), Int.toNat_natCast]
  refine w_astore_n C dX6_piecesOfPart_5 (by decide) ?_
  refine w_aload_n C dX6_piecesOfPart_6 rfl ?_
  refine g_X6_285 C dX6_piecesOfPart_7 (by first | assumption | exact Nat.zero_lt_one | exact Nat.zero_lt_two | exact Nat.one_lt_two) ?_
  refine w_iload_n C dX6_piecesOfPart_10 rfl ?_
  refine w_callS C dX6_piecesOfPart_11 (c_X6_entry hl IA_32 hy2 (j : Int) (by omega)) mX6_entry sX6_entry lk_X6_264 rfl rfl ⟨by decide, by decide, by decide, by decide⟩ (Nat.le_of_ble_eq_true rfl) (fun _ _ h => h.elim) ⟨by decide, by decide⟩ (fun r_ M_ q11 => ?_)
  obtain ⟨rfl, rfl⟩ := q11
  rw [rd_ok (by omega), hct j (by omega)]
  refine w_istore C dX6_piecesOfPart_14 (by decide) ?_
  refine w_aload_n C dX6_piecesOfPart_16 rfl ?_
  refine w_ifnull C dX6_piecesOfPart_17 (fun h17 => ?_) (fun h17 => ?_)
  · cases h17
  · refine w_aload_n C dX6_piecesOfPart_20 rfl ?_
    refine g_X6_312 C dX6_piecesOfPart_21 (by first | assumption | exact Nat.zero_lt_one | exact Nat.zero_lt_two | exact Nat.one_lt_two) ?_
    rw [(hSh j hj).1.2.1]
    refine w_if_eq C dX6_piecesOfPart_24 (by omega) (fun h24 => ?_) (fun h24 => ?_)
    · refine w_iload C dX6_piecesOfPart_34 rfl ?_
      refine w_iret C hr dX6_piecesOfPart_36 rfl (⟨rfl, by unfold pppS; rw [if_neg (by omega), Nat.mul_one]⟩) (by decide) (by decide)
    · refine w_iconst C dX6_piecesOfPart_27 ?_
      refine w_iload C dX6_piecesOfPart_28 rfl ?_
      refine w_imul C dX6_piecesOfPart_30 ?_
      refine w_goto C dX6_piecesOfPart_31 ?_
      refine w_iret C hr dX6_piecesOfPart_36 rfl (⟨rfl, by unfold pppS; rw [if_pos (by omega), Nat.mul_comm]; rfl⟩) (by decide) (by decide)
theorem c_X6_piecesOfGarment (hl : l.stackTraces = false) {S : Sg} (hG : GInv S) (hRm : RepRm S M) (hSh : RepSh S M) (hns : nsS S ≤ ns) {y : Nat} (hy : inD (cnt ns nt) 6 y) (hct : ∀ j, j < 8 → M.1 32 y j = ctS S y j) : Con l b0 yX6_piecesOfGarment cX6_piecesOfGarment 4 (some .int) 3 0 0 [aO 0 0, aO 6 y] ad (cnt ns nt) M (fun r9 M' => M' = M ∧ r9 = some (aI (takS S y : Nat))) noX := by
  have g6 := hG.2.2.2.2.2.1
  have hcnt := hRm.1
  refine Con.of hl pl_X6 (Nat.le_of_ble_eq_true rfl) ?_
  intro D cA p e s m args below meth c C hr
  have loop : ∀ (b n : Nat), n + b = nsS S → Wm p l e (rmd 3 0 0) s m args below meth c 4 D cA b0 0 0 (vx_MQ below (mQ D cA b0 ad (cnt ns nt) (fun r9 M' => M' = M ∧ r9 = some (aI (takS S y : Nat)))) (mX D cA b0 ad (cnt ns nt) noX) args s 0 0 b0) 4 [(0, aO 0 0), (1, aO 6 y), (2, aI (sumN (fun j => ctS S y j * pppS S j) n : Nat)), (3, aI n)] [] ad (cnt ns nt) M := by
    intro b
    induction b with
    | zero =>
      intro n hn
      refine w_iload_n C dX6_piecesOfGarment_4 rfl ?_
      refine w_aload_n C dX6_piecesOfGarment_5 rfl ?_
      refine g_X6_123 C dX6_piecesOfGarment_6 (by first | assumption | exact Nat.zero_lt_one | exact Nat.zero_lt_two | exact Nat.one_lt_two) ?_
      rw [hcnt]
      refine w_icmp_ge C dX6_piecesOfGarment_9 (by omega) (by omega) (fun h9 => ?_) (fun h9 => ?_)
      · refine w_iload_n C dX6_piecesOfGarment_27 rfl ?_
        refine w_iret C hr dX6_piecesOfGarment_28 rfl (⟨rfl, by unfold takS; rw [show nsS S = n by omega]⟩) (by decide) (by decide)
      · omega
    | succ b ih =>
      intro n hn
      refine w_iload_n C dX6_piecesOfGarment_4 rfl ?_
      refine w_aload_n C dX6_piecesOfGarment_5 rfl ?_
      refine g_X6_123 C dX6_piecesOfGarment_6 (by first | assumption | exact Nat.zero_lt_one | exact Nat.zero_lt_two | exact Nat.one_lt_two) ?_
      rw [hcnt]
      refine w_icmp_ge C dX6_piecesOfGarment_9 (by omega) (by omega) (fun h9 => ?_) (fun h9 => ?_)
      · omega
      · refine w_iload_n C dX6_piecesOfGarment_12 rfl ?_
        refine w_aload_n C dX6_piecesOfGarment_13 rfl ?_
        refine w_aload_n C dX6_piecesOfGarment_14 rfl ?_
        refine w_iload_n C dX6_piecesOfGarment_15 rfl ?_
        refine w_callV C dX6_piecesOfGarment_16 (c_X6_piecesOfPart hl hG hRm hSh hns hy hct n (by omega)) mX6_piecesOfPart vX6_piecesOfPart lk_X6_308 (by first | assumption | exact Nat.zero_lt_one | exact Nat.zero_lt_two | exact Nat.one_lt_two) rfl rfl rfl rfl ⟨by decide, by decide, by decide, by decide⟩ (Nat.le_of_ble_eq_true rfl) (fun _ _ h => h.elim) ⟨by decide, by decide⟩ (fun r_ M_ q16 => ?_)
        obtain ⟨rfl, rfl⟩ := q16
        refine w_iadd C dX6_piecesOfGarment_19 ?_
        refine w_istore_n C dX6_piecesOfGarment_20 (by decide) ?_
        refine w_iinc C dX6_piecesOfGarment_21 rfl (by decide) ?_
        refine w_goto C dX6_piecesOfGarment_24 ?_
        exact Wm.lsub (lv' := [(0, aO 0 0), (1, aO 6 y), (2, aI (sumN (fun j => ctS S y j * pppS S j) (n + 1) : Nat)), (3, aI ((n + 1 : Nat) : Int))]) ⟨rfl, rfl, rfl, rfl, trivial⟩ (ih (n + 1) (by omega))
  refine w_iconst C dX6_piecesOfGarment_0 ?_
  refine w_istore_n C dX6_piecesOfGarment_1 (by decide) ?_
  refine w_iconst C dX6_piecesOfGarment_2 ?_
  refine w_istore_n C dX6_piecesOfGarment_3 (by decide) ?_
  exact Wm.lsub (lv' := [(0, aO 0 0), (1, aO 6 y), (2, aI (sumN (fun j => ctS S y j * pppS S j) 0 : Nat)), (3, aI ((0 : Nat) : Int))]) ⟨rfl, rfl, rfl, rfl, trivial⟩ (loop (nsS S) 0 (by omega))
theorem c_X6_piecesFor (hl : l.stackTraces = false) {S : Sg} {P : List Pc} {nx : Nat} (hI : Inv S P nx) (hns : nsS S ≤ ns) (hnt : ntS S ≤ nt) (hR : RepRoom S P nx M) (a : Int) (ha : -2147483648 ≤ a ∧ a ≤ 2147483647) : Con l b0 yX6_piecesFor cX6_piecesFor 2 (some .int) 10 1 6 [aO 0 0, aI a] ad (cnt ns nt) M (okR (oPiecesFor a S P nx)) (exR (oPiecesFor a S P nx) [eIO]) := by
  have hR' := hR
  obtain ⟨hCl, hSh, hM, hSt, hRm, hTr⟩ := hR'
  refine Con.of hl pl_X6 (Nat.le_of_ble_eq_true rfl) ?_
  intro D cA p e s m args below meth c C hr
  have X0 : ∀ (E9 : String) (M9 : Mem), (E9 = eIO ∧ M9 = M ∧ ¬ (0 ≤ a ∧ a < ntS S)) → exR (oPiecesFor a S P nx) [eIO] E9 M9 := fun E9 M9 h9 => by
    obtain ⟨rfl, rfl, h9⟩ := h9
    exact exR_of (i := 0) (by unfold oPiecesFor; rw [if_pos h9]) rfl hR
  refine w_aload_n C dX6_piecesFor_0 rfl ?_
  refine w_aload_n C dX6_piecesFor_1 rfl ?_
  refine w_iload_n C dX6_piecesFor_2 rfl ?_
  refine w_callV C dX6_piecesFor_3 (c_X6_styleOrThrow hl hI.1 hRm a ha) mX6_styleOrThrow vX6_styleOrThrow lk_X6_279 (by first | assumption | exact Nat.zero_lt_one | exact Nat.zero_lt_two | exact Nat.one_lt_two) rfl rfl rfl rfl ⟨by decide, by decide, by decide, by decide⟩ (Nat.le_of_ble_eq_true rfl) X0 ⟨by decide, by decide⟩ (fun r_ M_ q3 => ?_)
  obtain ⟨rfl, hj, rfl⟩ := q3
  have i6 : inD (cnt ns nt) 6 a.toNat := by
    show a.toNat < nt
    omega
  refine w_callV C dX6_piecesFor_6 (c_X6_piecesOfGarment hl hI.1 hRm hSh hns i6 (hSt a.toNat (by omega)).1) mX6_piecesOfGarment vX6_piecesOfGarment lk_X6_297 (by first | assumption | exact Nat.zero_lt_one | exact Nat.zero_lt_two | exact Nat.one_lt_two) rfl rfl rfl rfl ⟨by decide, by decide, by decide, by decide⟩ (Nat.le_of_ble_eq_true rfl) (fun _ _ h => h.elim) ⟨by decide, by decide⟩ (fun r_ M_ q6 => ?_)
  obtain ⟨rfl, rfl⟩ := q6
  refine w_iret C hr dX6_piecesFor_9 rfl (okR_of (by unfold oPiecesFor; rw [if_neg (fun q => q hj)]) rfl hR) (by decide) (by decide)
theorem c_X6_made (hl : l.stackTraces = false) {S : Sg} {P : List Pc} {nx : Nat} (hI : Inv S P nx) (hnt : ntS S ≤ nt) (hR : RepRoom S P nx M) (a : Int) (ha : -2147483648 ≤ a ∧ a ≤ 2147483647) : Con l b0 yX6_made cX6_made 2 (some .int) 10 1 6 [aO 0 0, aI a] ad (cnt ns nt) M (okR (oMade a S P nx)) (exR (oMade a S P nx) [eIO]) := by
  have hR' := hR
  obtain ⟨hCl, hSh, hM, hSt, hRm, hTr⟩ := hR'
  refine Con.of hl pl_X6 (Nat.le_of_ble_eq_true rfl) ?_
  intro D cA p e s m args below meth c C hr
  have X0 : ∀ (E9 : String) (M9 : Mem), (E9 = eIO ∧ M9 = M ∧ ¬ (0 ≤ a ∧ a < ntS S)) → exR (oMade a S P nx) [eIO] E9 M9 := fun E9 M9 h9 => by
    obtain ⟨rfl, rfl, h9⟩ := h9
    exact exR_of (i := 0) (by unfold oMade; rw [if_pos h9]) rfl hR
  refine w_aload_n C dX6_made_0 rfl ?_
  refine w_iload_n C dX6_made_1 rfl ?_
  refine w_callV C dX6_made_2 (c_X6_styleOrThrow hl hI.1 hRm a ha) mX6_styleOrThrow vX6_styleOrThrow lk_X6_279 (by first | assumption | exact Nat.zero_lt_one | exact Nat.zero_lt_two | exact Nat.one_lt_two) rfl rfl rfl rfl ⟨by decide, by decide, by decide, by decide⟩ (Nat.le_of_ble_eq_true rfl) X0 ⟨by decide, by decide⟩ (fun r_ M_ q2 => ?_)
  obtain ⟨rfl, hj, rfl⟩ := q2
  have i6 : inD (cnt ns nt) 6 a.toNat := by
    show a.toNat < nt
    omega
  refine g_X6_288 C dX6_made_5 (by first | assumption | exact Nat.zero_lt_one | exact Nat.zero_lt_two | exact Nat.one_lt_two) ?_
  rw [(hSt a.toNat (by omega)).2]
  refine w_iret C hr dX6_made_8 rfl (okR_of (by unfold oMade; rw [if_neg (fun q => q hj)]) rfl hR) (by decide) (by decide)
theorem c_X6_roll (hl : l.stackTraces = false) {S : Sg} {P : List Pc} {nx : Nat} (hR : RepRoom S P nx M) : Con l b0 yX6_roll cX6_roll 1 (some .int) 1 0 0 [aO 0 0] ad (cnt ns nt) M (okR (oRoll S P nx)) noX := by
  have hR' := hR
  obtain ⟨hCl, hSh, hM, hSt, hRm, hTr⟩ := hR'
  refine Con.of hl pl_X6 (Nat.le_of_ble_eq_true rfl) ?_
  intro D cA p e s m args below meth c C hr
  refine w_aload_n C dX6_roll_0 rfl ?_
  refine g_X6_356 C dX6_roll_1 (by first | assumption | exact Nat.zero_lt_one | exact Nat.zero_lt_two | exact Nat.one_lt_two) ?_
  rw [hRm.2.2.1]
  refine w_iret C hr dX6_roll_4 rfl (okR_of (S' := S) (P' := P) (nx' := nx) rfl rfl hR) (by decide) (by decide)
theorem c_X6_pieces (hl : l.stackTraces = false) {S : Sg} {P : List Pc} {nx : Nat} (hI : Inv S P nx) (hns : nsS S ≤ ns) (hR : RepRoom S P nx M) (a : Int) (w : Nat) (hw : w ≤ 1) (ha : -2147483648 ≤ a ∧ a ≤ 2147483647) : Con l b0 yX6_pieces cX6_pieces 4 (some .int) 10 2 12 [aO 0 0, aI a, aI w] ad (cnt ns nt) M (okR (oPieces a w S P nx)) (exR (oPieces a w S P nx) [eIO, eUO]) := by
  have hR' := hR
  obtain ⟨hCl, hSh, hM, hSt, hRm, hTr⟩ := hR'
  refine Con.of hl pl_X6 (Nat.le_of_ble_eq_true rfl) ?_
  intro D cA p e s m args below meth c C hr
  have X0 : ∀ (E9 : String) (M9 : Mem), (E9 = eIO ∧ M9 = M ∧ ¬ (0 ≤ a ∧ a < nsS S)) → exR (oPieces a w S P nx) [eIO, eUO] E9 M9 := fun E9 M9 h9 => by
    obtain ⟨rfl, rfl, h9⟩ := h9
    exact exR_of (i := 0) (by unfold oPieces; rw [if_pos h9]) rfl hR
  refine w_aload_n C dX6_pieces_0 rfl ?_
  refine w_iload_n C dX6_pieces_1 rfl ?_
  refine w_callV C dX6_pieces_2 (c_X6_shapeOrThrow hl hI.1 hRm a ha) mX6_shapeOrThrow vX6_shapeOrThrow lk_X6_131 (by first | assumption | exact Nat.zero_lt_one | exact Nat.zero_lt_two | exact Nat.one_lt_two) rfl rfl rfl rfl ⟨by decide, by decide, by decide, by decide⟩ (Nat.le_of_ble_eq_true rfl) X0 ⟨by decide, by decide⟩ (fun r_ M_ q2 => ?_)
  obtain ⟨rfl, hj, rfl⟩ := q2
  have i4 : inD (cnt ns nt) 4 a.toNat := by
    show a.toNat < ns
    omega
  obtain ⟨s1, s2, s3⟩ := hSh a.toNat (by omega)
  have hpa := (hI.1.2.2.2.2.2.2.2.2.2.1 a.toNat).1
  refine w_astore_n C dX6_pieces_5 (by decide) ?_
  refine w_iload_n C dX6_pieces_6 rfl ?_
  refine w_if_eq C dX6_pieces_7 (by omega) (fun h7 => ?_) (fun h7 => ?_)
  · have hw0 : w = 0 := by omega
    subst hw0
    refine w_iload_n C dX6_pieces_28 rfl ?_
    refine w_if_eq C dX6_pieces_29 (by omega) (fun h29 => ?_) (fun h29 => ?_)
    · refine w_aload_n C dX6_pieces_39 rfl ?_
      refine g_X6_376 C dX6_pieces_40 (by first | assumption | exact Nat.zero_lt_one | exact Nat.zero_lt_two | exact Nat.one_lt_two) ?_
      rw [s2.1]
      refine w_iret C hr dX6_pieces_43 rfl (okR_of (by unfold oPieces; rw [if_neg (fun q => q hj), if_neg (fun q => absurd q.1 (by decide))]) rfl hR) (by decide) (by decide)
    · omega
  · have hw1 : w = 1 := by omega
    subst hw1
    refine w_aload_n C dX6_pieces_10 rfl ?_
    refine g_X6_312 C dX6_pieces_11 (by first | assumption | exact Nat.zero_lt_one | exact Nat.zero_lt_two | exact Nat.one_lt_two) ?_
    rw [s1.2.1]
    refine w_if_ne C dX6_pieces_14 (by omega) (fun h14 => ?_) (fun h14 => ?_)
    · refine w_iload_n C dX6_pieces_28 rfl ?_
      refine w_if_eq C dX6_pieces_29 (by omega) (fun h29 => ?_) (fun h29 => ?_)
      · omega
      · refine w_aload_n C dX6_pieces_32 rfl ?_
        refine g_X6_383 C dX6_pieces_33 (by first | assumption | exact Nat.zero_lt_one | exact Nat.zero_lt_two | exact Nat.one_lt_two) ?_
        refine w_goto C dX6_pieces_36 ?_
        rw [s2.2.1]
        refine w_iret C hr dX6_pieces_43 rfl (okR_of (by unfold oPieces; rw [if_neg (fun q => q hj), if_neg (fun q => h14 (by rw [q.2]; rfl))]) rfl hR) (by decide) (by decide)
    · refine w_throwW C tk_96_100 ts_392 dX6_pieces_17 dX6_pieces_20 dX6_pieces_21 dX6_pieces_24 dX6_pieces_27 ⟨by decide, by decide, by decide, by decide⟩ (Nat.le_of_ble_eq_true rfl) (exR_of (i := 1) (by unfold oPieces; rw [if_neg (fun q => q hj), if_pos ⟨rfl, by omega⟩]) rfl hR) (by decide) (by decide)
end Rm
