/-! the room: adding cloth and parts, what was cut, what can be made -/
def giN (S : Sg) (y : Nat) : Nat → Nat
  | 0 => 9999
  | n + 1 => if 0 < ctS S y n then min (giN S y n) ((if paS S n = 1 then min (stS S n 0) (stS S n 1) else stS S n 0) / ctS S y n) else giN S y n
def oCanMake (a : Int) (S : Sg) (P : List Pc) (nx : Nat) : Res := if ¬ (0 ≤ a ∧ a < ntS S) then (1, 0, S, P, nx) else if takS S a.toNat = 0 then (2, 0, S, P, nx) else (0, (giN S a.toNat (nsS S) : Int), S, P, nx)
theorem giN_le (S : Sg) (y n : Nat) : giN S y n ≤ 9999 := by
  induction n with
  | zero => exact Nat.le_refl _
  | succ n ih =>
    unfold giN
    split
    · exact Nat.le_trans (Nat.min_le_left _ _) ih
    · exact ih
theorem sumN_0 {f : Nat → Nat} {n : Nat} : sumN f n = 0 ↔ ∀ i, i < n → f i = 0 := by
  induction n with
  | zero => exact ⟨fun _ i hi => absurd hi (Nat.not_lt_zero i), fun _ => rfl⟩
  | succ n ih =>
    unfold sumN
    constructor
    · intro h i hi
      by_cases h1 : i = n
      · subst h1; omega
      · exact ih.mp (by omega) i (by omega)
    · intro h
      rw [ih.mpr fun i hi => h i (by omega), h n (by omega)]
theorem tak_0 {S : Sg} (hct : ∀ y j, nsS S ≤ j → ctS S y j = 0) (hn : nsS S ≤ 8) (y : Nat) : takS S y = 0 ↔ ¬ ∃ j, j < 8 ∧ ctS S y j ≠ 0 := by
  unfold takS
  rw [sumN_0]
  constructor
  · rintro h ⟨j, hj, h9⟩
    by_cases h1 : j < nsS S
    · have := h j h1
      rcases Nat.mul_eq_zero.mp this with q | q
      · exact h9 q
      · have := (ppp_le S j).1
        omega
    · exact h9 (hct y j (by omega))
  · intro h i hi
    by_cases h1 : ctS S y i = 0
    · rw [h1, Nat.zero_mul]
    · exact absurd ⟨i, by omega, h1⟩ h
section Rm
variable {l : Launch} {b0 : Nat → Prop} {ad : Ads} {ns nt : Nat} {M : Mem}
theorem c_X6_addCloth (hl : l.stackTraces = false) {S : Sg} {P : List Pc} {nx : Nat} (hI : Inv S P nx) (hR : RepRoom S P nx M) (a : Int) (ha : -2147483648 ≤ a ∧ a ≤ 2147483647) : Con l b0 yX6_addCloth cX6_addCloth 2 (some .int) 9 1 6 [aO 0 0, aI a] ad (cnt ns nt) M (okR (oAddCloth a S P nx)) (exR (oAddCloth a S P nx) [eIA]) := by
  have hR' := hR
  obtain ⟨hCl, hSh, hM, hSt, hRm, hTr⟩ := hR'
  have hRm' := hRm
  obtain ⟨k1, k2, k3, k4, k5⟩ := hRm'
  have hrl := hI.1.2.2.2.2.2.2.2.2.2.2.2
  have b1 := b2_01 (1 ≤ a ∧ a ≤ 9999)
  refine Con.of hl pl_X6 (Nat.le_of_ble_eq_true rfl) ?_
  intro D cA p e s m args below meth c C hr
  have T23 : ∀ lv, (¬ (1 ≤ a ∧ a ≤ 9999) ∨ 999999 < (rlS S : Int) + a) → Wm p l e (rmd 9 1 6) s m args below meth c 2 D cA b0 0 0 (vx_MQ below (mQ D cA b0 ad (cnt ns nt) (okR (oAddCloth a S P nx))) (mX D cA b0 ad (cnt ns nt) (exR (oAddCloth a S P nx) [eIA])) args s 1 6 b0) 23 lv [] ad (cnt ns nt) M := by
    intro lv hno
    refine w_throwW C tk_52_56 ts_360 dX6_addCloth_23 dX6_addCloth_26 dX6_addCloth_27 dX6_addCloth_30 dX6_addCloth_33 ⟨by decide, by decide, by decide, by decide⟩ (Nat.le_of_ble_eq_true rfl) (exR_of (i := 0) (by unfold oAddCloth; rw [if_pos hno]) rfl hR) (by decide) (by decide)
  refine w_iload_n C dX6_addCloth_0 rfl ?_
  refine w_iconst C dX6_addCloth_1 ?_
  refine w_sipush (v := 9999) C dX6_addCloth_2 rfl ?_
  refine w_callS C dX6_addCloth_5 (c_X6_isWithin hl a 1 9999 (by omega) (by omega) (by omega)) mX6_isWithin sX6_isWithin lk_X6_48 rfl rfl ⟨by decide, by decide, by decide, by decide⟩ (Nat.le_of_ble_eq_true rfl) (fun _ _ h => h.elim) ⟨by decide, by decide⟩ (fun r_ M_ q5 => ?_)
  obtain ⟨rfl, rfl⟩ := q5
  refine w_if_eq C dX6_addCloth_8 (by omega) (fun h8 => ?_) (fun h8 => ?_)
  · exact T23 _ (Or.inl fun q => by rw [b2_t q] at h8; omega)
  · have y1 : 1 ≤ a ∧ a ≤ 9999 := Decidable.byContradiction fun q => h8 (b2_f q)
    obtain ⟨u, rfl⟩ := Int.eq_ofNat_of_zero_le (show 0 ≤ a by omega)
    refine w_aload_n C dX6_addCloth_11 rfl ?_
    refine g_X6_356 C dX6_addCloth_12 (by first | assumption | exact Nat.zero_lt_one | exact Nat.zero_lt_two | exact Nat.one_lt_two) ?_
    rw [k3]
    refine w_iload_n C dX6_addCloth_15 rfl ?_
    refine w_iadd C dX6_addCloth_16 ?_
    refine w_ldcw C dX6_addCloth_17 kc_X6_359 ?_
    refine w_icmp_le C dX6_addCloth_20 (by omega) (by omega) (fun h20 => ?_) (fun h20 => ?_)
    · refine w_aload_n C dX6_addCloth_34 rfl ?_
      refine w_dup C dX6_addCloth_35 rfl ?_
      refine g_X6_356 C dX6_addCloth_36 (by first | assumption | exact Nat.zero_lt_one | exact Nat.zero_lt_two | exact Nat.one_lt_two) ?_
      refine w_iload_n C dX6_addCloth_39 rfl ?_
      refine w_iadd C dX6_addCloth_40 ?_
      refine p_X6_356 C dX6_addCloth_41 (by first | assumption | exact Nat.zero_lt_one | exact Nat.zero_lt_two | exact Nat.one_lt_two) ?_
      refine w_aload_n C dX6_addCloth_44 rfl ?_
      refine g_X6_356 C dX6_addCloth_45 (by first | assumption | exact Nat.zero_lt_one | exact Nat.zero_lt_two | exact Nat.one_lt_two) ?_
      rw [k3]
      have hF : Fr (fun k i => k = 0 ∧ i = 0) M_ (uI M_ 0 0 6 ((rlS S : Int) + u)) := Fr.rf.uI ⟨rfl, rfl⟩
      have n0 : ∀ {k i : Nat}, k ≠ 0 → ¬ (k = 0 ∧ i = 0) := fun h q => h q.1
      refine Wm.top (v' := aI ((rlS S : Int) + u)) rfl ?_
      refine w_iret C hr dX6_addCloth_48 rfl (okR_of (S' := up3 S 18 0 0 (rlS S + u)) (P' := P) (nx' := nx) (by unfold oAddCloth; rw [if_neg (by rintro (q | q); exact q y1; omega), Int.toNat_natCast]) rfl ⟨RepCl.fr hF (n0 (by decide)) (n0 (by decide)) (n0 (by decide)) hCl, RepSh.fr hF (fun i => ⟨n0 (by decide), n0 (by decide), n0 (by decide), n0 (by decide), n0 (by decide)⟩) hSh, RepMk.cg (S := S) (fun p _ => ⟨rfl, rfl, rfl, rfl⟩) (fun _ => rfl) (RepMk.fr hI.2.2.1 hF ⟨n0 (by decide), n0 (by decide), n0 (by decide), n0 (by decide), n0 (by decide), n0 (by decide)⟩ (fun _ _ => n0 (by decide)) hM), RepSt.fr hF (fun i => ⟨n0 (by decide), n0 (by decide)⟩) hSt, ⟨k1, k2, rfl, k4, k5⟩, TrOK.fr hF (n0 (by decide)) hTr⟩) (by decide) (by decide)
    · exact T23 _ (Or.inr (by omega))
theorem c_X6_cut (hl : l.stackTraces = false) {S : Sg} {P : List Pc} {nx : Nat} (hI : Inv S P nx) (hns : nsS S ≤ ns) (hR : RepRoom S P nx M) : Con l b0 yX6_cut cX6_cut 5 (some .long) 2 0 0 [aO 0 0] ad (cnt ns nt) M (fun r9 M' => M' = M ∧ r9 = some (aL (cutS S : Nat))) noX := by
  have hR' := hR
  obtain ⟨hCl, hSh, hM, hSt, hRm, hTr⟩ := hR'
  have hcnt := hRm.1
  have g6 := hI.1.2.2.2.2.2.1
  refine Con.of hl pl_X6 (Nat.le_of_ble_eq_true rfl) ?_
  intro D cA p e s m args below meth c C hr
  have loop : ∀ (b n : Nat), n + b = nsS S → Wm p l e (rmd 2 0 0) s m args below meth c 5 D cA b0 0 0 (vx_MQ below (mQ D cA b0 ad (cnt ns nt) (fun r9 M' => M' = M ∧ r9 = some (aL (cutS S : Nat)))) (mX D cA b0 ad (cnt ns nt) noX) args s 0 0 b0) 4 [(0, aO 0 0), (1, aL (sumN (eS S) n : Nat)), (3, aI n)] [] ad (cnt ns nt) M := by
    intro b
    induction b with
    | zero =>
      intro n hn
      refine w_iload_n C dX6_cut_4 rfl ?_
      refine w_aload_n C dX6_cut_5 rfl ?_
      refine g_X6_123 C dX6_cut_6 (by first | assumption | exact Nat.zero_lt_one | exact Nat.zero_lt_two | exact Nat.one_lt_two) ?_
      rw [hcnt]
      refine w_icmp_ge C dX6_cut_9 (by omega) (by omega) (fun h9 => ?_) (fun h9 => ?_)
      · refine w_lload_n C dX6_cut_42 rfl ?_
        refine w_lret C hr dX6_cut_43 (⟨rfl, by unfold cutS; rw [show nsS S = n by omega]⟩) (by decide) (by decide)
      · omega
    | succ b ih =>
      intro n hn
      have i4 : inD (cnt ns nt) 4 n := by
        show n < ns
        omega
      refine w_iload_n C dX6_cut_4 rfl ?_
      refine w_aload_n C dX6_cut_5 rfl ?_
      refine g_X6_123 C dX6_cut_6 (by first | assumption | exact Nat.zero_lt_one | exact Nat.zero_lt_two | exact Nat.one_lt_two) ?_
      rw [hcnt]
      refine w_icmp_ge C dX6_cut_9 (by omega) (by omega) (fun h9 => ?_) (fun h9 => ?_)
      · omega
      · refine w_aload_n C dX6_cut_12 rfl ?_
        refine w_iload_n C dX6_cut_13 rfl ?_
        refine w_callV C dX6_cut_14 (c_X6_shapeNumbered hl hI.1 hRm (n : Int) (by omega)) mX6_shapeNumbered vX6_shapeNumbered lk_X6_169 (by first | assumption | exact Nat.zero_lt_one | exact Nat.zero_lt_two | exact Nat.one_lt_two) rfl rfl rfl rfl ⟨by decide, by decide, by decide, by decide⟩ (Nat.le_of_ble_eq_true rfl) (fun _ _ h => h.elim) ⟨by decide, by decide⟩ (fun r_ M_ q14 => ?_)
        obtain ⟨rfl, rfl⟩ := q14
        rw [if_pos (by omega), Int.toNat_natCast]
        refine w_astore C dX6_cut_17 (by decide) ?_
        refine w_lload_n C dX6_cut_19 rfl ?_
        refine w_aload C dX6_cut_20 rfl ?_
        refine w_ifnonnull C dX6_cut_22 (fun h22 => ?_) (fun h22 => ?_)
        · refine w_aload C dX6_cut_29 rfl ?_
          refine g_X6_146 C dX6_cut_31 (by first | assumption | exact Nat.zero_lt_one | exact Nat.zero_lt_two | exact Nat.one_lt_two) ?_
          rw [(hSh n (by omega)).2.1.2.2]
          refine w_ladd C dX6_cut_34 ?_
          refine w_lstore_n C dX6_cut_35 (by decide) ?_
          refine w_iinc C dX6_cut_36 rfl (by decide) ?_
          refine w_goto C dX6_cut_39 ?_
          exact Wm.lsub (lv' := [(0, aO 0 0), (1, aL (sumN (eS S) (n + 1) : Nat)), (3, aI ((n + 1 : Nat) : Int))]) ⟨rfl, rfl, rfl, trivial⟩ (ih (n + 1) (by omega))
        · cases h22
  refine w_lconst C dX6_cut_0 ?_
  refine w_lstore_n C dX6_cut_1 (by decide) ?_
  refine w_iconst C dX6_cut_2 ?_
  refine w_istore_n C dX6_cut_3 (by decide) ?_
  exact Wm.lsub (lv' := [(0, aO 0 0), (1, aL (sumN (eS S) 0 : Nat)), (3, aI ((0 : Nat) : Int))]) ⟨rfl, rfl, rfl, trivial⟩ (loop (nsS S) 0 (by omega))
theorem c_X6_styleWithPartsOrThrow (hl : l.stackTraces = false) {S : Sg} (hG : GInv S) (hct : ∀ y j, nsS S ≤ j → ctS S y j = 0) (hnt : ntS S ≤ nt) (hSt : RepSt S M) (hRm : RepRm S M) (a : Int) (ha : -2147483648 ≤ a ∧ a ≤ 2147483647) : Con l b0 yX6_styleWithPartsOrThrow cX6_styleWithPartsOrThrow 3 (some (.object "CuttingRoom$Style")) 10 2 12 [aO 0 0, aI a] ad (cnt ns nt) M (fun r9 M' => M' = M ∧ ((0 ≤ a ∧ a < ntS S) ∧ takS S a.toNat ≠ 0) ∧ r9 = some (aO 6 a.toNat)) (fun E M' => M' = M ∧ (E = eIO ∧ ¬ (0 ≤ a ∧ a < ntS S) ∨ E = eUO ∧ (0 ≤ a ∧ a < ntS S) ∧ takS S a.toNat = 0)) := by
  refine Con.of hl pl_X6 (Nat.le_of_ble_eq_true rfl) ?_
  intro D cA p e s m args below meth c C hr
  refine w_aload_n C dX6_styleWithPartsOrThrow_0 rfl ?_
  refine w_iload_n C dX6_styleWithPartsOrThrow_1 rfl ?_
  refine w_callV C dX6_styleWithPartsOrThrow_2 (c_X6_styleOrThrow hl hG hRm a ha) mX6_styleOrThrow vX6_styleOrThrow lk_X6_279 (by first | assumption | exact Nat.zero_lt_one | exact Nat.zero_lt_two | exact Nat.one_lt_two) rfl rfl rfl rfl ⟨by decide, by decide, by decide, by decide⟩ (Nat.le_of_ble_eq_true rfl) (fun E9 M9 h9 => ⟨h9.2.1, Or.inl ⟨h9.1, h9.2.2⟩⟩) ⟨by decide, by decide⟩ (fun r_ M_ q2 => ?_)
  obtain ⟨rfl, hj, rfl⟩ := q2
  have i6 : inD (cnt ns nt) 6 a.toNat := by
    show a.toNat < nt
    omega
  refine w_astore_n C dX6_styleWithPartsOrThrow_5 (by decide) ?_
  refine w_aload_n C dX6_styleWithPartsOrThrow_6 rfl ?_
  refine w_callV C dX6_styleWithPartsOrThrow_7 (c_X5_hasParts hl hG i6 i6 (hSt a.toNat (by omega)).1) mX5_hasParts vX5_hasParts lk_X6_303 (by first | assumption | exact Nat.zero_lt_one | exact Nat.zero_lt_two | exact Nat.one_lt_two) rfl rfl rfl rfl ⟨by decide, by decide, by decide, by decide⟩ (Nat.le_of_ble_eq_true rfl) (fun _ _ h => h.elim) ⟨by decide, by decide⟩ (fun r_ M_ q7 => ?_)
  obtain ⟨rfl, z, rfl, hz, hzi⟩ := q7
  refine w_if_ne C dX6_styleWithPartsOrThrow_10 (by omega) (fun h10 => ?_) (fun h10 => ?_)
  · refine w_aload_n C dX6_styleWithPartsOrThrow_24 rfl ?_
    refine w_aret C hr (Or.inl ⟨_, rfl⟩) dX6_styleWithPartsOrThrow_25 (⟨rfl, ⟨hj, fun q => (tak_0 hct hG.2.2.2.2.2.1 a.toNat).mp q (hzi.mp (by rcases hz with q | q; exact absurd q h10; exact q))⟩, rfl⟩) (by decide) (by decide)
  · refine w_throwW C tk_96_100 ts_306 dX6_styleWithPartsOrThrow_13 dX6_styleWithPartsOrThrow_16 dX6_styleWithPartsOrThrow_17 dX6_styleWithPartsOrThrow_20 dX6_styleWithPartsOrThrow_23 ⟨by decide, by decide, by decide, by decide⟩ (Nat.le_of_ble_eq_true rfl) (⟨rfl, Or.inr ⟨rfl, hj, (tak_0 hct hG.2.2.2.2.2.1 a.toNat).mpr fun q => h10 (by rw [hzi.mpr q]; decide)⟩⟩) (by decide) (by decide)
theorem c_X6_garmentsInStock (hl : l.stackTraces = false) {S : Sg} (hG : GInv S) (hRm : RepRm S M) (hSh : RepSh S M) (hns : nsS S ≤ ns) {y : Nat} (hy : inD (cnt ns nt) 6 y) (hct : ∀ j, j < 8 → M.1 32 y j = ctS S y j) : Con l b0 yX6_garmentsInStock cX6_garmentsInStock 6 (some .int) 3 0 0 [aO 0 0, aO 6 y] ad (cnt ns nt) M (fun r9 M' => M' = M ∧ r9 = some (aI (giN S y (nsS S) : Nat))) noX := by
  have g6 := hG.2.2.2.2.2.1
  have hcnt := hRm.1
  have hy2 : inD (cnt ns nt) 32 y := hy
  refine Con.of hl pl_X6 (Nat.le_of_ble_eq_true rfl) ?_
  intro D cA p e s m args below meth c C hr
  have loop : ∀ (b n : Nat), n + b = nsS S → Wm p l e (rmd 3 0 0) s m args below meth c 6 D cA b0 0 0 (vx_MQ below (mQ D cA b0 ad (cnt ns nt) (fun r9 M' => M' = M ∧ r9 = some (aI (giN S y (nsS S) : Nat)))) (mX D cA b0 ad (cnt ns nt) noX) args s 0 0 b0) 6 [(0, aO 0 0), (1, aO 6 y), (2, aI (giN S y n : Nat)), (3, aI n)] [] ad (cnt ns nt) M := by
    intro b
    induction b with
    | zero =>
      intro n hn
      refine w_iload_n C dX6_garmentsInStock_6 rfl ?_
      refine w_aload_n C dX6_garmentsInStock_7 rfl ?_
      refine g_X6_123 C dX6_garmentsInStock_8 (by first | assumption | exact Nat.zero_lt_one | exact Nat.zero_lt_two | exact Nat.one_lt_two) ?_
      rw [hcnt]
      refine w_icmp_ge C dX6_garmentsInStock_11 (by omega) (by omega) (fun h11 => ?_) (fun h11 => ?_)
      · refine w_iload_n C dX6_garmentsInStock_60 rfl ?_
        refine w_iret C hr dX6_garmentsInStock_61 rfl (⟨rfl, by rw [show nsS S = n by omega]⟩) (by decide) (by decide)
      · omega
    | succ b ih =>
      intro n hn
      have i4 : inD (cnt ns nt) 4 n := by
        show n < ns
        omega
      obtain ⟨s1, s2, s3⟩ := hSh n (by omega)
      obtain ⟨p1, p2, p3, p4, p5, p6, p7, p8, p9⟩ := hG.2.2.2.2.2.2.2.2.2.1 n
      have hc4 := hG.2.2.2.2.2.2.2.2.2.2.1 y n
      have hgl := giN_le S y n
      refine w_iload_n C dX6_garmentsInStock_6 rfl ?_
      refine w_aload_n C dX6_garmentsInStock_7 rfl ?_
      refine g_X6_123 C dX6_garmentsInStock_8 (by first | assumption | exact Nat.zero_lt_one | exact Nat.zero_lt_two | exact Nat.one_lt_two) ?_
      rw [hcnt]
      refine w_icmp_ge C dX6_garmentsInStock_11 (by omega) (by omega) (fun h11 => ?_) (fun h11 => ?_)
      · omega
      · refine w_aload_n C dX6_garmentsInStock_14 rfl ?_
        refine w_iload_n C dX6_garmentsInStock_15 rfl ?_
        refine w_callV C dX6_garmentsInStock_16 (c_X6_shapeNumbered hl hG hRm (n : Int) (by omega)) mX6_shapeNumbered vX6_shapeNumbered lk_X6_169 (by first | assumption | exact Nat.zero_lt_one | exact Nat.zero_lt_two | exact Nat.one_lt_two) rfl rfl rfl rfl ⟨by decide, by decide, by decide, by decide⟩ (Nat.le_of_ble_eq_true rfl) (fun _ _ h => h.elim) ⟨by decide, by decide⟩ (fun r_ M_ q16 => ?_)
        obtain ⟨rfl, rfl⟩ := q16
        rw [if_pos (by omega), Int.toNat_natCast]
        refine w_astore C dX6_garmentsInStock_19 (by decide) ?_
        refine w_aload_n C dX6_garmentsInStock_21 rfl ?_
        refine g_X6_285 C dX6_garmentsInStock_22 (by first | assumption | exact Nat.zero_lt_one | exact Nat.zero_lt_two | exact Nat.one_lt_two) ?_
        refine w_iload_n C dX6_garmentsInStock_25 rfl ?_
        refine w_callS C dX6_garmentsInStock_26 (c_X6_entry hl IA_32 hy2 (n : Int) (by omega)) mX6_entry sX6_entry lk_X6_264 rfl rfl ⟨by decide, by decide, by decide, by decide⟩ (Nat.le_of_ble_eq_true rfl) (fun _ _ h => h.elim) ⟨by decide, by decide⟩ (fun r_ M_ q26 => ?_)
        obtain ⟨rfl, rfl⟩ := q26
        rw [rd_ok (by omega), hct n (by omega)]
        refine w_istore C dX6_garmentsInStock_29 (by decide) ?_
        refine w_aload C dX6_garmentsInStock_31 rfl ?_
        refine w_ifnull C dX6_garmentsInStock_33 (fun h33 => ?_) (fun h33 => ?_)
        · cases h33
        · refine w_iload C dX6_garmentsInStock_36 rfl ?_
          refine w_if_le C dX6_garmentsInStock_38 (by omega) (fun h38 => ?_) (fun h38 => ?_)
          · have e9 : giN S y (n + 1) = giN S y n := by
              rw [giN, if_neg (by omega)]
            refine w_iinc C dX6_garmentsInStock_54 rfl (by decide) ?_
            refine w_goto C dX6_garmentsInStock_57 ?_
            exact Wm.lsub (lv' := [(0, aO 0 0), (1, aO 6 y), (2, aI (giN S y (n + 1) : Nat)), (3, aI ((n + 1 : Nat) : Int))]) ⟨rfl, rfl, by rw [e9]; rfl, rfl, trivial⟩ (ih (n + 1) (by omega))
          · refine w_iload_n C dX6_garmentsInStock_41 rfl ?_
            refine w_aload C dX6_garmentsInStock_42 rfl ?_
            refine w_callV C dX6_garmentsInStock_44 (c_X4_whole hl hG i4 s1.2.1 s2.1 s2.2.1) mX4_whole vX4_whole lk_X6_400 (by first | assumption | exact Nat.zero_lt_one | exact Nat.zero_lt_two | exact Nat.one_lt_two) rfl rfl rfl rfl ⟨by decide, by decide, by decide, by decide⟩ (Nat.le_of_ble_eq_true rfl) (fun _ _ h => h.elim) ⟨by decide, by decide⟩ (fun r_ M_ q44 => ?_)
            obtain ⟨rfl, rfl⟩ := q44
            have ew : (if paS S n = 1 then ((min (stS S n 0) (stS S n 1) : Nat) : Int) else (stS S n 0 : Int)) = ((if paS S n = 1 then min (stS S n 0) (stS S n 1) else stS S n 0 : Nat) : Int) := by
              split <;> rfl
            have hwb : (if paS S n = 1 then min (stS S n 0) (stS S n 1) else stS S n 0) ≤ 9999 := by
              split
              · exact Nat.le_trans (Nat.min_le_left _ _) p7
              · exact p7
            rw [ew]
            refine w_iload C dX6_garmentsInStock_47 rfl ?_
            refine w_idiv C dX6_garmentsInStock_49 (by omega) (by omega) ?_
            have hdb : (if paS S n = 1 then min (stS S n 0) (stS S n 1) else stS S n 0) / ctS S y n ≤ 9999 := Nat.le_trans (Nat.div_le_self _ _) hwb
            refine Wm.top (v' := aI (((if paS S n = 1 then min (stS S n 0) (stS S n 1) else stS S n 0) / ctS S y n : Nat) : Int)) rfl ?_
            have e8 : giN S y (n + 1) = min (giN S y n) ((if paS S n = 1 then min (stS S n 0) (stS S n 1) else stS S n 0) / ctS S y n) := by
              rw [giN, if_pos (by omega)]
            generalize (if paS S n = 1 then min (stS S n 0) (stS S n 1) else stS S n 0) / ctS S y n = Qn at e8 hdb ⊢
            refine w_mmin C lk_X6_327 dX6_garmentsInStock_50 (by omega) (by omega) ⟨by decide, by decide, by decide, by decide⟩ (Nat.le_of_ble_eq_true rfl) ?_
            have e9 : min ((giN S y n : Nat) : Int) (Qn : Int) = (giN S y (n + 1) : Nat) := by
              rw [e8]
              omega
            rw [e9]
            refine w_istore_n C dX6_garmentsInStock_53 (by decide) ?_
            refine w_iinc C dX6_garmentsInStock_54 rfl (by decide) ?_
            refine w_goto C dX6_garmentsInStock_57 ?_
            exact Wm.lsub (lv' := [(0, aO 0 0), (1, aO 6 y), (2, aI (giN S y (n + 1) : Nat)), (3, aI ((n + 1 : Nat) : Int))]) ⟨rfl, rfl, rfl, rfl, trivial⟩ (ih (n + 1) (by omega))
  refine w_sipush (v := 9999) C dX6_garmentsInStock_0 rfl ?_
  refine w_istore_n C dX6_garmentsInStock_3 (by decide) ?_
  refine w_iconst C dX6_garmentsInStock_4 ?_
  refine w_istore_n C dX6_garmentsInStock_5 (by decide) ?_
  exact Wm.lsub (lv' := [(0, aO 0 0), (1, aO 6 y), (2, aI (giN S y 0 : Nat)), (3, aI ((0 : Nat) : Int))]) ⟨rfl, rfl, rfl, rfl, trivial⟩ (loop (nsS S) 0 (by omega))
theorem c_X6_canMake (hl : l.stackTraces = false) {S : Sg} {P : List Pc} {nx : Nat} (hI : Inv S P nx) (hct : ∀ y j, nsS S ≤ j → ctS S y j = 0) (hns : nsS S ≤ ns) (hnt : ntS S ≤ nt) (hR : RepRoom S P nx M) (a : Int) (ha : -2147483648 ≤ a ∧ a ≤ 2147483647) : Con l b0 yX6_canMake cX6_canMake 2 (some .int) 11 2 12 [aO 0 0, aI a] ad (cnt ns nt) M (okR (oCanMake a S P nx)) (exR (oCanMake a S P nx) [eIO, eUO]) := by
  have hR' := hR
  obtain ⟨hCl, hSh, hM, hSt, hRm, hTr⟩ := hR'
  refine Con.of hl pl_X6 (Nat.le_of_ble_eq_true rfl) ?_
  intro D cA p e s m args below meth c C hr
  have X0 : ∀ (E9 : String) (M9 : Mem), (M9 = M ∧ (E9 = eIO ∧ ¬ (0 ≤ a ∧ a < ntS S) ∨ E9 = eUO ∧ (0 ≤ a ∧ a < ntS S) ∧ takS S a.toNat = 0)) → exR (oCanMake a S P nx) [eIO, eUO] E9 M9 := fun E9 M9 h9 => by
    obtain ⟨rfl, ⟨rfl, h9⟩ | ⟨rfl, h9, h8⟩⟩ := h9
    · exact exR_of (i := 0) (by unfold oCanMake; rw [if_pos h9]) rfl hR
    · exact exR_of (i := 1) (by unfold oCanMake; rw [if_neg (fun q => q h9), if_pos h8]) rfl hR
  refine w_aload_n C dX6_canMake_0 rfl ?_
  refine w_aload_n C dX6_canMake_1 rfl ?_
  refine w_iload_n C dX6_canMake_2 rfl ?_
  refine w_callV C dX6_canMake_3 (c_X6_styleWithPartsOrThrow hl hI.1 hct hnt hSt hRm a ha) mX6_styleWithPartsOrThrow vX6_styleWithPartsOrThrow lk_X6_394 (by first | assumption | exact Nat.zero_lt_one | exact Nat.zero_lt_two | exact Nat.one_lt_two) rfl rfl rfl rfl ⟨by decide, by decide, by decide, by decide⟩ (Nat.le_of_ble_eq_true rfl) X0 ⟨by decide, by decide⟩ (fun r_ M_ q3 => ?_)
  obtain ⟨rfl, ⟨hj, ht⟩, rfl⟩ := q3
  have i6 : inD (cnt ns nt) 6 a.toNat := by
    show a.toNat < nt
    omega
  refine w_callV C dX6_canMake_6 (c_X6_garmentsInStock hl hI.1 hRm hSh hns i6 (hSt a.toNat (by omega)).1) mX6_garmentsInStock vX6_garmentsInStock lk_X6_397 (by first | assumption | exact Nat.zero_lt_one | exact Nat.zero_lt_two | exact Nat.one_lt_two) rfl rfl rfl rfl ⟨by decide, by decide, by decide, by decide⟩ (Nat.le_of_ble_eq_true rfl) (fun _ _ h => h.elim) ⟨by decide, by decide⟩ (fun r_ M_ q6 => ?_)
  obtain ⟨rfl, rfl⟩ := q6
  refine w_iret C hr dX6_canMake_9 rfl (okR_of (by unfold oCanMake; rw [if_neg (fun q => q hj), if_neg ht]) rfl hR) (by decide) (by decide)
end Rm
