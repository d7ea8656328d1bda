/-! the room: pliesFor -/
def plF (S : Sg) (P : List Pc) (y : Nat) (g : Int) : Nat → Int
  | 0 => 0
  | n + 1 => if plF S P y g n = -1 ∨ pfp S P n (g * ctS S y n) = -1 then -1 else max (plF S P y g n) (pfp S P n (g * ctS S y n))
def oPliesFor (a g : Int) (S : Sg) (P : List Pc) (nx : Nat) : Res := if ¬ (0 ≤ a ∧ a < ntS S) then (1, 0, S, P, nx) else if ¬ (1 ≤ g ∧ g ≤ 99) then (2, 0, S, P, nx) else if takS S a.toNat = 0 then (3, 0, S, P, nx) else if plF S P a.toNat g (nsS S) = -1 then (4, 0, S, P, nx) else (0, plF S P a.toNat g (nsS S), S, P, nx)
theorem plF_no {S : Sg} {P : List Pc} {y : Nat} {g : Int} {n : Nat} (h : plF S P y g n = -1) (k : Nat) : plF S P y g (n + k) = -1 := by
  induction k with
  | zero => exact h
  | succ k ih =>
    show (if plF S P y g (n + k) = -1 ∨ _ then (-1 : Int) else _) = -1
    rw [if_pos (Or.inl ih)]
theorem pfp_bd {S : Sg} {P : List Pc} {j : Nat} {m9 : Int} (hm : m9 ≤ 1000) : -1 ≤ pfp S P j m9 ∧ pfp S P j m9 ≤ 1000000 := by
  have h0 := pfs_bd (m := m9 - stS S j 0) (k := perS S P j 0) (by omega)
  have h1 := pfs_bd (m := m9 - stS S j 1) (k := perS S P j 1) (by omega)
  unfold pfp
  (repeat' split) <;> omega
section Rm
variable {l : Launch} {b0 : Nat → Prop} {ad : Ads} {ns nt : Nat} {M : Mem}
theorem c_X6_pliesForPart (hl : l.stackTraces = false) {S : Sg} {P : List Pc} {nx : Nat} (hI : Inv S P nx) (hns : nsS S ≤ ns) (hR : RepRoom S P nx M) (j : Nat) (hj : j < nsS S) (m9 : Int) (hm : 0 ≤ m9 ∧ m9 ≤ 1000) : Con l b0 yX6_pliesForPart cX6_pliesForPart 5 (some .int) 4 0 0 [aO 0 0, aO 4 j, aI m9] ad (cnt ns nt) M (fun r9 M' => M' = M ∧ r9 = some (aI (pfp S P j m9))) noX := by
  have hR' := hR
  obtain ⟨hCl, hSh, hM, hSt, hRm, hTr⟩ := hR'
  have i4 : inD (cnt ns nt) 4 j := by
    show j < ns
    omega
  obtain ⟨s1, ⟨s2, s3, s4⟩, s5⟩ := hSh j hj
  obtain ⟨p1, p2, p3, p4, p5, p6, p7, p8, p9⟩ := hI.1.2.2.2.2.2.2.2.2.2.1 j
  have b0' := pfs_bd (m := m9 - stS S j 0) (k := perS S P j 0) (by omega)
  have b1' := pfs_bd (m := m9 - stS S j 1) (k := perS S P j 1) (by omega)
  refine Con.of hl pl_X6 (Nat.le_of_ble_eq_true rfl) ?_
  intro D cA p e s m args below meth c C hr
  refine w_aload_n C dX6_pliesForPart_0 rfl ?_
  refine w_ifnonnull C dX6_pliesForPart_1 (fun h1 => ?_) (fun h1 => ?_)
  · refine w_iload_n C dX6_pliesForPart_6 rfl ?_
    refine w_aload_n C dX6_pliesForPart_7 rfl ?_
    refine g_X6_376 C dX6_pliesForPart_8 (by first | assumption | exact Nat.zero_lt_one | exact Nat.zero_lt_two | exact Nat.one_lt_two) ?_
    rw [s2]
    refine w_isub C dX6_pliesForPart_11 ?_
    refine w_aload_n C dX6_pliesForPart_12 rfl ?_
    refine w_aload_n C dX6_pliesForPart_13 rfl ?_
    refine w_iconst C dX6_pliesForPart_14 ?_
    refine w_callV C dX6_pliesForPart_15 (c_X6_perPly hl hI hns hR j hj 0 (by omega)) mX6_perPly vX6_perPly lk_X6_379 (by first | assumption | exact Nat.zero_lt_one | exact Nat.zero_lt_two | exact Nat.one_lt_two) rfl rfl rfl rfl ⟨by decide, by decide, by decide, by decide⟩ (Nat.le_of_ble_eq_true rfl) (fun _ _ h => h.elim) ⟨by decide, by decide⟩ (fun r_ M_ q15 => ?_)
    obtain ⟨rfl, rfl⟩ := q15
    refine w_callS C dX6_pliesForPart_18 (c_X6_pliesForSort hl (m9 - stS S j 0) (perS S P j 0) (by omega) (perS_le hI.2.2.1 j 0)) mX6_pliesForSort sX6_pliesForSort lk_X6_433 rfl rfl ⟨by decide, by decide, by decide, by decide⟩ (Nat.le_of_ble_eq_true rfl) (fun _ _ h => h.elim) ⟨by decide, by decide⟩ (fun r_ M_ q18 => ?_)
    obtain ⟨rfl, rfl⟩ := q18
    refine w_istore_n C dX6_pliesForPart_21 (by decide) ?_
    refine w_aload_n C dX6_pliesForPart_22 rfl ?_
    refine g_X6_312 C dX6_pliesForPart_23 (by first | assumption | exact Nat.zero_lt_one | exact Nat.zero_lt_two | exact Nat.one_lt_two) ?_
    rw [s1.2.1]
    refine w_if_eq C dX6_pliesForPart_26 (by omega) (fun h26 => ?_) (fun h26 => ?_)
    · refine w_iconst C dX6_pliesForPart_47 ?_
      refine w_istore C dX6_pliesForPart_48 (by decide) ?_
      refine w_iload_n C dX6_pliesForPart_50 rfl ?_
      refine w_iconst C dX6_pliesForPart_51 ?_
      refine w_icmp_eq C dX6_pliesForPart_52 (by omega) (by omega) (fun h52 => ?_) (fun h52 => ?_)
      · refine w_iconst C dX6_pliesForPart_61 ?_
        refine w_iret C hr dX6_pliesForPart_62 rfl (⟨rfl, by unfold pfp; rw [if_pos (Or.inl (by omega))]⟩) (by decide) (by decide)
      · refine w_iload C dX6_pliesForPart_55 rfl ?_
        refine w_iconst C dX6_pliesForPart_57 ?_
        refine w_icmp_ne C dX6_pliesForPart_58 (by omega) (by omega) (fun h58 => ?_) (fun h58 => ?_)
        · refine w_iload_n C dX6_pliesForPart_63 rfl ?_
          refine w_iload C dX6_pliesForPart_64 rfl ?_
          refine w_mmax C lk_X6_430 dX6_pliesForPart_66 (by omega) (by omega) ⟨by decide, by decide, by decide, by decide⟩ (Nat.le_of_ble_eq_true rfl) ?_
          refine w_iret C hr dX6_pliesForPart_69 rfl (⟨rfl, by unfold pfp; rw [if_neg (by omega), if_neg (by omega)]⟩) (by decide) (by decide)
        · omega
    · refine w_iload_n C dX6_pliesForPart_29 rfl ?_
      refine w_aload_n C dX6_pliesForPart_30 rfl ?_
      refine g_X6_383 C dX6_pliesForPart_31 (by first | assumption | exact Nat.zero_lt_one | exact Nat.zero_lt_two | exact Nat.one_lt_two) ?_
      rw [s3]
      refine w_isub C dX6_pliesForPart_34 ?_
      refine w_aload_n C dX6_pliesForPart_35 rfl ?_
      refine w_aload_n C dX6_pliesForPart_36 rfl ?_
      refine w_iconst C dX6_pliesForPart_37 ?_
      refine w_callV C dX6_pliesForPart_38 (c_X6_perPly hl hI hns hR j hj 1 (by omega)) mX6_perPly vX6_perPly lk_X6_379 (by first | assumption | exact Nat.zero_lt_one | exact Nat.zero_lt_two | exact Nat.one_lt_two) rfl rfl rfl rfl ⟨by decide, by decide, by decide, by decide⟩ (Nat.le_of_ble_eq_true rfl) (fun _ _ h => h.elim) ⟨by decide, by decide⟩ (fun r_ M_ q38 => ?_)
      obtain ⟨rfl, rfl⟩ := q38
      refine w_callS C dX6_pliesForPart_41 (c_X6_pliesForSort hl (m9 - stS S j 1) (perS S P j 1) (by omega) (perS_le hI.2.2.1 j 1)) mX6_pliesForSort sX6_pliesForSort lk_X6_433 rfl rfl ⟨by decide, by decide, by decide, by decide⟩ (Nat.le_of_ble_eq_true rfl) (fun _ _ h => h.elim) ⟨by decide, by decide⟩ (fun r_ M_ q41 => ?_)
      obtain ⟨rfl, rfl⟩ := q41
      refine w_goto C dX6_pliesForPart_44 ?_
      refine w_istore C dX6_pliesForPart_48 (by decide) ?_
      refine w_iload_n C dX6_pliesForPart_50 rfl ?_
      refine w_iconst C dX6_pliesForPart_51 ?_
      refine w_icmp_eq C dX6_pliesForPart_52 (by omega) (by omega) (fun h52 => ?_) (fun h52 => ?_)
      · refine w_iconst C dX6_pliesForPart_61 ?_
        refine w_iret C hr dX6_pliesForPart_62 rfl (⟨rfl, by unfold pfp; rw [if_pos (Or.inl (by omega))]⟩) (by decide) (by decide)
      · refine w_iload C dX6_pliesForPart_55 rfl ?_
        refine w_iconst C dX6_pliesForPart_57 ?_
        refine w_icmp_ne C dX6_pliesForPart_58 (by omega) (by omega) (fun h58 => ?_) (fun h58 => ?_)
        · refine w_iload_n C dX6_pliesForPart_63 rfl ?_
          refine w_iload C dX6_pliesForPart_64 rfl ?_
          refine w_mmax C lk_X6_430 dX6_pliesForPart_66 (by omega) (by omega) ⟨by decide, by decide, by decide, by decide⟩ (Nat.le_of_ble_eq_true rfl) ?_
          refine w_iret C hr dX6_pliesForPart_69 rfl (⟨rfl, by unfold pfp; rw [if_neg (by omega), if_pos (by omega)]⟩) (by decide) (by decide)
        · refine w_iconst C dX6_pliesForPart_61 ?_
          refine w_iret C hr dX6_pliesForPart_62 rfl (⟨rfl, by unfold pfp; rw [if_pos (Or.inr (by omega))]⟩) (by decide) (by decide)
  · cases h1
theorem plF_bd {S : Sg} {P : List Pc} {y : Nat} {g : Int} (hG : GInv S) (hg : 0 ≤ g ∧ g ≤ 99) (n : Nat) : -1 ≤ plF S P y g n ∧ plF S P y g n ≤ 1000000 := by
  induction n with
  | zero => exact ⟨by show (-1 : Int) ≤ 0; omega, by show (0 : Int) ≤ 1000000; omega⟩
  | succ n ih =>
    have hc := hG.2.2.2.2.2.2.2.2.2.2.1 y n
    have h1 : g * (ctS S y n : Int) ≤ 99 * 4 := Int.mul_le_mul hg.2 (by omega) (by omega) (by omega)
    have h2 := pfp_bd (S := S) (P := P) (j := n) (m9 := g * (ctS S y n : Int)) (by omega)
    unfold plF
    split <;> omega
theorem c_X6_pliesFor (hl : l.stackTraces = false) {S : Sg} {P : List Pc} {nx : Nat} (hI : Inv S P nx) (hct : ∀ y j, nsS S ≤ j → ctS S y j = 0) (hns : nsS S ≤ ns) (hnt : ntS S ≤ nt) (hR : RepRoom S P nx M) (a g : Int) (ha : -2147483648 ≤ a ∧ a ≤ 2147483647) (hg : -2147483648 ≤ g ∧ g ≤ 2147483647) : Con l b0 yX6_pliesFor cX6_pliesFor 7 (some .int) 11 5 30 [aO 0 0, aI a, aI g] ad (cnt ns nt) M (okR (oPliesFor a g S P nx)) (exR (oPliesFor a g S P nx) [eIO, eIA, eUO, eIS]) := by
  have hR' := hR
  obtain ⟨hCl, hSh, hM, hSt, hRm, hTr⟩ := hR'
  have g6 := hI.1.2.2.2.2.2.1
  have hcnt := hRm.1
  refine Con.of hl pl_X6 (Nat.le_of_ble_eq_true rfl) ?_
  intro D cA p e s m args below meth c C hr
  have X0 : ∀ (E9 : String) (M9 : Mem), (E9 = eIO ∧ M9 = M ∧ ¬ (0 ≤ a ∧ a < ntS S)) → exR (oPliesFor a g S P nx) [eIO, eIA, eUO, eIS] E9 M9 := fun E9 M9 h9 => by
    obtain ⟨rfl, rfl, h9⟩ := h9
    exact exR_of (i := 0) (by unfold oPliesFor; rw [if_pos h9]) rfl hR
  have X1 : (0 ≤ a ∧ a < ntS S) → ∀ (E9 : String) (M9 : Mem), (E9 = eIA ∧ M9 = M ∧ ¬ (1 ≤ g ∧ g ≤ 99)) → exR (oPliesFor a g S P nx) [eIO, eIA, eUO, eIS] E9 M9 := fun hj E9 M9 h9 => by
    obtain ⟨rfl, rfl, h9⟩ := h9
    exact exR_of (i := 1) (by unfold oPliesFor; rw [if_neg (fun q => q hj), if_pos h9]) rfl hR
  have X2 : (0 ≤ a ∧ a < ntS S) → (1 ≤ g ∧ g ≤ 99) → ∀ (E9 : String) (M9 : Mem), (M9 = M ∧ (E9 = eIO ∧ ¬ (0 ≤ a ∧ a < ntS S) ∨ E9 = eUO ∧ (0 ≤ a ∧ a < ntS S) ∧ takS S a.toNat = 0)) → exR (oPliesFor a g S P nx) [eIO, eIA, eUO, eIS] E9 M9 := fun hj hgg E9 M9 h9 => by
    obtain ⟨rfl, ⟨rfl, h9⟩ | ⟨rfl, h9, h8⟩⟩ := h9
    · exact absurd hj h9
    · exact exR_of (i := 2) (by unfold oPliesFor; rw [if_neg (fun q => q hj), if_neg (fun q => q hgg), if_pos h8]) rfl hR
  refine w_aload_n C dX6_pliesFor_0 rfl ?_
  refine w_iload_n C dX6_pliesFor_1 rfl ?_
  refine w_callV C dX6_pliesFor_2 (c_X6_styleOrThrow hl hI.1 hRm a ha) mX6_styleOrThrow vX6_styleOrThrow lk_X6_279 (by first | assumption | exact Nat.zero_lt_one | exact Nat.zero_lt_two | exact Nat.one_lt_two) rfl rfl rfl rfl ⟨by decide, by decide, by decide, by decide⟩ (Nat.le_of_ble_eq_true rfl) X0 ⟨by decide, by decide⟩ (fun r_ M_ q2 => ?_)
  obtain ⟨rfl, hj, rfl⟩ := q2
  refine w_pop C dX6_pliesFor_5 rfl ?_
  refine w_iload_n C dX6_pliesFor_6 rfl ?_
  refine w_callS C dX6_pliesFor_7 (c_X6_checkGarments hl g hg) mX6_checkGarments sX6_checkGarments lk_X6_414 rfl rfl ⟨by decide, by decide, by decide, by decide⟩ (Nat.le_of_ble_eq_true rfl) (X1 hj) ⟨by decide, by decide⟩ (fun r_ M_ q7 => ?_)
  obtain ⟨rfl, hgg, rfl⟩ := q7
  refine w_aload_n C dX6_pliesFor_10 rfl ?_
  refine w_iload_n C dX6_pliesFor_11 rfl ?_
  refine w_callV C dX6_pliesFor_12 (c_X6_styleWithPartsOrThrow hl hI.1 hct hnt hSt hRm a ha) mX6_styleWithPartsOrThrow vX6_styleWithPartsOrThrow lk_X6_394 (by first | assumption | exact Nat.zero_lt_one | exact Nat.zero_lt_two | exact Nat.one_lt_two) rfl rfl rfl rfl ⟨by decide, by decide, by decide, by decide⟩ (Nat.le_of_ble_eq_true rfl) (X2 hj hgg) ⟨by decide, by decide⟩ (fun r_ M_ q12 => ?_)
  obtain ⟨rfl, ⟨-, ht0⟩, rfl⟩ := q12
  have i6 : inD (cnt ns nt) 6 a.toNat := by
    show a.toNat < nt
    omega
  have i32 : inD (cnt ns nt) 32 a.toNat := i6
  obtain ⟨hctr, -⟩ := hSt a.toNat (by omega)
  have loop : ∀ (b n : Nat), n + b = nsS S → plF S P a.toNat g n ≠ -1 → Wm p l e (rmd 11 5 30) s m args below meth c 7 D cA b0 4 24 (vx_MQ below (mQ D cA b0 ad (cnt ns nt) (okR (oPliesFor a g S P nx))) (mX D cA b0 ad (cnt ns nt) (exR (oPliesFor a g S P nx) [eIO, eIA, eUO, eIS])) args s 5 30 b0) 22 [(0, aO 0 0), (2, aI g), (3, aO 6 a.toNat), (4, aI (plF S P a.toNat g n)), (5, aI n)] [] ad (cnt ns nt) M_ := by
    intro b
    induction b with
    | zero =>
      intro n hn hne
      refine w_iload C dX6_pliesFor_22 rfl ?_
      refine w_aload_n C dX6_pliesFor_24 rfl ?_
      refine g_X6_123 C dX6_pliesFor_25 (by first | assumption | exact Nat.zero_lt_one | exact Nat.zero_lt_two | exact Nat.one_lt_two) ?_
      rw [hcnt]
      refine w_icmp_ge C dX6_pliesFor_28 (by omega) (by omega) (fun h28 => ?_) (fun h28 => ?_)
      · refine w_iload C dX6_pliesFor_86 rfl ?_
        refine w_iret C hr dX6_pliesFor_88 rfl (okR_of (S' := S) (P' := P) (nx' := nx) (by unfold oPliesFor; rw [if_neg (fun q => q hj), if_neg (fun q => q hgg), if_neg ht0, if_neg (by rw [show nsS S = n by omega]; exact hne), show nsS S = n by omega]) rfl hR) (by decide) (by decide)
      · omega
    | succ b ih =>
      intro n hn hne
      have hc := hI.1.2.2.2.2.2.2.2.2.2.2.1 a.toNat n
      have hm1 : g * (ctS S a.toNat n : Int) ≤ 99 * 4 := Int.mul_le_mul hgg.2 (by omega) (by omega) (by omega)
      have hm2 : 0 ≤ g * (ctS S a.toNat n : Int) := Int.mul_nonneg (by omega) (by omega)
      have hp1 := pfp_bd (S := S) (P := P) (j := n) (m9 := g * (ctS S a.toNat n : Int)) (by omega)
      have hp2 := plF_bd (P := P) (y := a.toNat) hI.1 (show 0 ≤ g ∧ g ≤ 99 by omega) n
      refine w_iload C dX6_pliesFor_22 rfl ?_
      refine w_aload_n C dX6_pliesFor_24 rfl ?_
      refine g_X6_123 C dX6_pliesFor_25 (by first | assumption | exact Nat.zero_lt_one | exact Nat.zero_lt_two | exact Nat.one_lt_two) ?_
      rw [hcnt]
      refine w_icmp_ge C dX6_pliesFor_28 (by omega) (by omega) (fun h28 => ?_) (fun h28 => ?_)
      · omega
      · refine w_aload_n C dX6_pliesFor_31 rfl ?_
        refine w_aload_n C dX6_pliesFor_32 rfl ?_
        refine w_iload C dX6_pliesFor_33 rfl ?_
        refine w_callV C dX6_pliesFor_35 (c_X6_shapeNumbered hl hI.1 hRm (n : Int) (by omega)) mX6_shapeNumbered vX6_shapeNumbered lk_X6_169 (by first | assumption | exact Nat.zero_lt_one | exact Nat.zero_lt_two | exact Nat.one_lt_two) rfl rfl rfl rfl ⟨by decide, by decide, by decide, by decide⟩ (Nat.le_of_ble_eq_true rfl) (fun _ _ h => h.elim) ⟨by decide, by decide⟩ (fun r_ M_ q35 => ?_)
        obtain ⟨rfl, rfl⟩ := q35
        rw [if_pos (by omega), Int.toNat_natCast]
        refine w_iload_n C dX6_pliesFor_38 rfl ?_
        refine w_aload_n C dX6_pliesFor_39 rfl ?_
        refine g_X6_285 C dX6_pliesFor_40 (by first | assumption | exact Nat.zero_lt_one | exact Nat.zero_lt_two | exact Nat.one_lt_two) ?_
        refine w_iload C dX6_pliesFor_43 rfl ?_
        refine w_callS C dX6_pliesFor_45 (c_X6_entry hl IA_32 i32 (n : Int) (by omega)) mX6_entry sX6_entry lk_X6_264 rfl rfl ⟨by decide, by decide, by decide, by decide⟩ (Nat.le_of_ble_eq_true rfl) (fun _ _ h => h.elim) ⟨by decide, by decide⟩ (fun r_ M_ q45 => ?_)
        obtain ⟨rfl, rfl⟩ := q45
        rw [rd_ok (by omega), hctr n (by omega)]
        refine w_imul C dX6_pliesFor_48 ?_
        refine w_callV C dX6_pliesFor_49 (c_X6_pliesForPart hl hI hns hR n (by omega) (g * (ctS S a.toNat n : Int)) (by omega)) mX6_pliesForPart vX6_pliesForPart lk_X6_424 (by first | assumption | exact Nat.zero_lt_one | exact Nat.zero_lt_two | exact Nat.one_lt_two) rfl rfl rfl rfl ⟨by decide, by decide, by decide, by decide⟩ (Nat.le_of_ble_eq_true rfl) (fun _ _ h => h.elim) ⟨by decide, by decide⟩ (fun r_ M_ q49 => ?_)
        obtain ⟨rfl, rfl⟩ := q49
        refine w_istore C dX6_pliesFor_52 (by decide) ?_
        refine w_iload C dX6_pliesFor_54 rfl ?_
        refine w_iconst C dX6_pliesFor_56 ?_
        refine w_icmp_ne C dX6_pliesFor_57 (by omega) (by omega) (fun h57 => ?_) (fun h57 => ?_)
        · refine w_iload C dX6_pliesFor_71 rfl ?_
          refine w_iload C dX6_pliesFor_73 rfl ?_
          refine w_mmax C lk_X6_430 dX6_pliesFor_75 (by omega) (by omega) ⟨by decide, by decide, by decide, by decide⟩ (Nat.le_of_ble_eq_true rfl) ?_
          have e9 : plF S P a.toNat g (n + 1) = max (plF S P a.toNat g n) (pfp S P n (g * ctS S a.toNat n)) := by
            rw [plF, if_neg (by rintro (q | q); exact hne q; exact h57 q)]
          rw [← e9]
          refine w_istore C dX6_pliesFor_78 (by decide) ?_
          refine w_iinc C dX6_pliesFor_80 rfl (by decide) ?_
          refine w_goto C dX6_pliesFor_83 ?_
          refine Wm.lsub (lv' := [(0, aO 0 0), (2, aI g), (3, aO 6 a.toNat), (4, aI (plF S P a.toNat g (n + 1))), (5, aI ((n + 1 : Nat) : Int))]) ⟨rfl, rfl, rfl, rfl, rfl, trivial⟩ (ih (n + 1) (by omega) ?_)
          rw [e9]
          omega
        · have e9 : plF S P a.toNat g (n + 1) = -1 := by
            rw [plF, if_pos (Or.inr (Decidable.not_not.mp h57))]
          have e8 := plF_no e9 b
          rw [show n + 1 + b = nsS S by omega] at e8
          refine w_throwW C tk_66_70 ts_428 dX6_pliesFor_60 dX6_pliesFor_63 dX6_pliesFor_64 dX6_pliesFor_67 dX6_pliesFor_70 ⟨by decide, by decide, by decide, by decide⟩ (Nat.le_of_ble_eq_true rfl) (exR_of (i := 3) (by unfold oPliesFor; rw [if_neg (fun q => q hj), if_neg (fun q => q hgg), if_neg ht0, if_pos e8]) rfl hR) (by decide) (by decide)
  refine w_astore_n C dX6_pliesFor_15 (by decide) ?_
  refine w_iconst C dX6_pliesFor_16 ?_
  refine w_istore C dX6_pliesFor_17 (by decide) ?_
  refine w_iconst C dX6_pliesFor_19 ?_
  refine w_istore C dX6_pliesFor_20 (by decide) ?_
  exact Wm.lsub (lv' := [(0, aO 0 0), (2, aI g), (3, aO 6 a.toNat), (4, aI (plF S P a.toNat g 0)), (5, aI ((0 : Nat) : Int))]) ⟨rfl, rfl, rfl, rfl, rfl, trivial⟩ (loop (nsS S) 0 (by omega) (by show (0 : Int) ≠ -1; decide))
end Rm
