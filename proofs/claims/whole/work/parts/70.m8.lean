-- MODEL
/-! the model: garments -/
def mkN (S : Sg) (P : List Pc) (y k : Nat) : Nat → Nat
  | 0 => 2147483647
  | n + 1 => if 0 < ctS S y n then min (if paS S n = 1 then (stS S n 1 + k * perS S P n 1) / ctS S y n else (stS S n 0 + k * perS S P n 0) / ctS S y n) (min ((stS S n 0 + k * perS S P n 0) / ctS S y n) (mkN S P y k n)) else mkN S P y k n
def okK (S : Sg) (P : List Pc) (y k g n : Nat) : Prop := ∀ j, j < n → g * ctS S y j ≤ stS S j 0 + k * perS S P j 0 ∧ (paS S j = 1 → g * ctS S y j ≤ stS S j 1 + k * perS S P j 1)
theorem mkN_le (S : Sg) (P : List Pc) (y k n : Nat) : mkN S P y k n ≤ 2147483647 := by
  induction n with
  | zero => exact Nat.le_refl _
  | succ n ih =>
    unfold mkN
    split
    · exact Nat.le_trans (Nat.min_le_right _ _) (Nat.le_trans (Nat.min_le_right _ _) ih)
    · exact ih
theorem mkN_iff {S : Sg} {P : List Pc} {y k g : Nat} (hg : g ≤ 2147483647) (n : Nat) : g ≤ mkN S P y k n ↔ okK S P y k g n := by
  induction n with
  | zero => exact ⟨fun _ j hj => absurd hj (Nat.not_lt_zero j), fun _ => hg⟩
  | succ n ih =>
    have key : okK S P y k g (n + 1) ↔ okK S P y k g n ∧ (g * ctS S y n ≤ stS S n 0 + k * perS S P n 0 ∧ (paS S n = 1 → g * ctS S y n ≤ stS S n 1 + k * perS S P n 1)) := by
      constructor
      · intro h
        exact ⟨fun j hj => h j (by omega), h n (by omega)⟩
      · rintro ⟨h1, h2⟩ j hj
        by_cases h : j = n
        · rw [h]
          exact h2
        · exact h1 j (by omega)
    rw [key, mkN]
    by_cases hc : 0 < ctS S y n
    · rw [if_pos hc, Nat.le_min, Nat.le_min, ih, Nat.le_div_iff_mul_le hc]
      by_cases hp : paS S n = 1
      · rw [if_pos hp, Nat.le_div_iff_mul_le hc]
        constructor
        · rintro ⟨h1, h2, h3⟩
          exact ⟨h3, h2, fun _ => h1⟩
        · rintro ⟨h1, h2, h3⟩
          exact ⟨h3 hp, h2, h1⟩
      · rw [if_neg hp, Nat.le_div_iff_mul_le hc]
        constructor
        · rintro ⟨h1, h2, h3⟩
          exact ⟨h3, h2, fun q => absurd q hp⟩
        · rintro ⟨h1, h2, -⟩
          exact ⟨h2, h2, h1⟩
    · rw [if_neg hc, ih, show ctS S y n = 0 by omega, Nat.mul_zero]
      exact ⟨fun h => ⟨h, Nat.zero_le _, fun _ => Nat.zero_le _⟩, fun h => h.1⟩
theorem okK_0 {S : Sg} {P : List Pc} {y g n : Nat} : okK S P y 0 g n ↔ okT S y g n := by
  unfold okK okT
  simp only [Nat.zero_mul, Nat.add_zero]
/-- with a part, what can be made of the stock is the same, found either way -/
theorem giN_mk {S : Sg} {P : List Pc} {y : Nat} (hG : GInv S) (hp : takS S y ≠ 0) : giN S y (nsS S) = mkN S P y 0 (nsS S) := by
  have hb : mkN S P y 0 (nsS S) ≤ 9999 := by
    have hex : ∃ j, j < nsS S ∧ ctS S y j ≠ 0 := Decidable.byContradiction fun q => hp (by
      unfold takS
      refine sumN_0.mpr fun j hj => ?_
      have : ctS S y j = 0 := Decidable.byContradiction fun z => q ⟨j, hj, z⟩
      rw [this, Nat.zero_mul])
    obtain ⟨j, hj, hc⟩ := hex
    have h := ((mkN_iff (g := mkN S P y 0 (nsS S)) (mkN_le S P y 0 _) (nsS S)).mp (Nat.le_refl _) j hj).1
    rw [Nat.zero_mul, Nat.add_zero] at h
    have h2 := (hG.2.2.2.2.2.2.2.2.2.1 j).2.2.2.2.2.2.1
    have h3 : mkN S P y 0 (nsS S) * 1 ≤ mkN S P y 0 (nsS S) * ctS S y j := Nat.mul_le_mul_left _ (by omega)
    omega
  refine Nat.le_antisymm ?_ ?_
  · exact (mkN_iff (by have := giN_le S y (nsS S); omega) _).mpr (okK_0.mpr ((giN_iff (nsS S)).mp (Nat.le_refl _)).2)
  · exact (giN_iff (nsS S)).mpr ⟨hb, okK_0.mp ((mkN_iff (by omega) _).mp (Nat.le_refl _))⟩
section Mo
variable {l : Launch} {b0 : Nat → Prop} {ad : Ads} {M : Mem}
theorem c_X7_makes (hl : l.stackTraces = false) {S : Sg} {P : List Pc} {nx : Nat} (hI : Inv S P nx) (hR : RepMo S P nx M) (y : Nat) (hy : y < 4) (k : Nat) (hk : k ≤ 401) : Con l b0 yX7_makes cX7_makes 8 (some .int) 2 0 0 [aO 40 0, aI y, aI k] ad cntM M (fun r M' => M' = M ∧ r = some (aI (mkN S P y k (nsS S) : Nat))) noX := by
  have e7 := hR.1.2.2.2.2.2.1
  have g6 := hI.1.2.2.2.2.2.1
  refine Con.of hl pl_X7 (Nat.le_of_ble_eq_true rfl) ?_
  intro D cA p e s m args below meth c C hr
  have loop : ∀ (b n : Nat), n + b = nsS S → Wm p l e (rmd 2 0 0) s m args below meth c 8 D cA b0 0 0 (vx_MQ below (mQ D cA b0 ad cntM (fun r M' => M' = M ∧ r = some (aI (mkN S P y k (nsS S) : Nat)))) (mX D cA b0 ad cntM noX) args s 0 0 b0) 7 [(0, aO 40 0), (1, aI y), (2, aI k), (3, aI (mkN S P y k n : Nat)), (4, aI n)] [] ad cntM M := by
    intro b
    induction b with
    | zero =>
      intro n hn
      refine w_iload C dX7_makes_7 rfl ?_
      refine w_aload_n C dX7_makes_9 rfl ?_
      refine g_X7_143 C dX7_makes_10 (by first | assumption | exact Nat.zero_lt_one | exact Nat.zero_lt_two | exact Nat.one_lt_two) ?_
      refine w_icmp_ge C dX7_makes_13 (by omega) (by omega) (fun h13 => ?_) (fun h13 => ?_)
      · refine w_iload_n C dX7_makes_132 rfl ?_
        refine w_iret C hr dX7_makes_133 rfl (⟨rfl, by rw [show nsS S = n by omega]⟩) (by decide) (by decide)
      · omega
    | succ b ih =>
      intro n hn
      have c1 := hR.2.2.2.2.2.1 y n hy (by omega)
      have c4 := hI.1.2.2.2.2.2.2.2.2.2.2.1 y n
      obtain ⟨a1, a2, a3, a4, a5, a6, a7, a8, a9⟩ := hR.2.2.1 n (by omega)
      obtain ⟨p1, p2, p3, p4, p5, p6, p7, p8, p9⟩ := hI.1.2.2.2.2.2.2.2.2.2.1 n
      have f0 := perS_le (S := S) hI.2.2.1 n 0
      have f1 := perS_le (S := S) hI.2.2.1 n 1
      have m0 : k * perS S P n 0 ≤ 401 * 80 := Nat.mul_le_mul hk f0
      have m1 : k * perS S P n 1 ≤ 401 * 80 := Nat.mul_le_mul hk f1
      have hml := mkN_le S P y k n
      have hmk : mkN S P y k (n + 1) = if 0 < ctS S y n then min (if paS S n = 1 then (stS S n 1 + k * perS S P n 1) / ctS S y n else (stS S n 0 + k * perS S P n 0) / ctS S y n) (min ((stS S n 0 + k * perS S P n 0) / ctS S y n) (mkN S P y k n)) else mkN S P y k n := rfl
      have i7 : ∀ (b2 : Nat), n + (b2 + 1) = nsS S → Wm p l e (rmd 2 0 0) s m args below meth c 8 D cA b0 0 0 (vx_MQ below (mQ D cA b0 ad cntM (fun r M' => M' = M ∧ r = some (aI (mkN S P y k (nsS S) : Nat)))) (mX D cA b0 ad cntM noX) args s 0 0 b0) 126 [(0, aO 40 0), (1, aI y), (2, aI k), (3, aI (mkN S P y k (n + 1) : Nat)), (4, aI n)] [] ad cntM M := by
        intro b2 hb2
        refine w_iinc C dX7_makes_126 rfl (by decide) ?_
        refine w_goto C dX7_makes_129 ?_
        exact Wm.lsub (lv' := [(0, aO 40 0), (1, aI y), (2, aI k), (3, aI (mkN S P y k (n + 1) : Nat)), (4, aI ((n + 1 : Nat) : Int))]) ⟨rfl, rfl, rfl, rfl, rfl, trivial⟩ (ih (n + 1) (by omega))
      have d0 : (stS S n 0 + k * perS S P n 0) / ctS S y n ≤ 50000 := Nat.le_trans (Nat.div_le_self _ _) (by omega)
      have d1 : (stS S n 1 + k * perS S P n 1) / ctS S y n ≤ 50000 := Nat.le_trans (Nat.div_le_self _ _) (by omega)
      have K98 : 0 < ctS S y n → Wm p l e (rmd 2 0 0) s m args below meth c 8 D cA b0 0 0 (vx_MQ below (mQ D cA b0 ad cntM (fun r M' => M' = M ∧ r = some (aI (mkN S P y k (nsS S) : Nat)))) (mX D cA b0 ad cntM noX) args s 0 0 b0) 98 [(0, aO 40 0), (1, aI y), (2, aI k), (3, aI (mkN S P y k n : Nat)), (4, aI n), (6, aI ((stS S n 0 + k * perS S P n 0) / ctS S y n : Nat))] [aI ((if paS S n = 1 then (stS S n 1 + k * perS S P n 1) / ctS S y n else (stS S n 0 + k * perS S P n 0) / ctS S y n : Nat) : Int)] ad cntM M := by
        intro hc
        rw [if_pos hc] at hmk
        generalize (stS S n 0 + k * perS S P n 0) / ctS S y n = A0 at hmk d0 ⊢
        have hB : (if paS S n = 1 then (stS S n 1 + k * perS S P n 1) / ctS S y n else A0) ≤ 50000 := by
          split <;> omega
        generalize (if paS S n = 1 then (stS S n 1 + k * perS S P n 1) / ctS S y n else A0) = B0 at hmk hB ⊢
        refine w_istore C dX7_makes_98 (by decide) ?_
        refine w_iload C dX7_makes_100 rfl ?_
        refine w_iload_n C dX7_makes_102 rfl ?_
        refine w_icmp_ge C dX7_makes_103 (by omega) (by omega) (fun h103 => ?_) (fun h103 => ?_)
        · refine w_iload_n C dX7_makes_111 rfl ?_
          refine w_istore_n C dX7_makes_112 (by decide) ?_
          refine w_iload C dX7_makes_113 rfl ?_
          refine w_iload_n C dX7_makes_115 rfl ?_
          refine w_icmp_ge C dX7_makes_116 (by omega) (by omega) (fun h116 => ?_) (fun h116 => ?_)
          · refine w_iload_n C dX7_makes_124 rfl ?_
            refine w_istore_n C dX7_makes_125 (by decide) ?_
            refine Wm.lsub (lv' := [(0, aO 40 0), (1, aI y), (2, aI k), (3, aI (mkN S P y k (n + 1) : Nat)), (4, aI n)]) ⟨rfl, rfl, rfl, congrArg (fun z : Int => some (aI z)) ?_, rfl, trivial⟩ (i7 b hn)
            rw [hmk]
            omega
          · refine w_iload C dX7_makes_119 rfl ?_
            refine w_goto C dX7_makes_121 ?_
            refine w_istore_n C dX7_makes_125 (by decide) ?_
            refine Wm.lsub (lv' := [(0, aO 40 0), (1, aI y), (2, aI k), (3, aI (mkN S P y k (n + 1) : Nat)), (4, aI n)]) ⟨rfl, rfl, rfl, congrArg (fun z : Int => some (aI z)) ?_, rfl, trivial⟩ (i7 b hn)
            rw [hmk]
            omega
        · refine w_iload C dX7_makes_106 rfl ?_
          refine w_goto C dX7_makes_108 ?_
          refine w_istore_n C dX7_makes_112 (by decide) ?_
          refine w_iload C dX7_makes_113 rfl ?_
          refine w_iload_n C dX7_makes_115 rfl ?_
          refine w_icmp_ge C dX7_makes_116 (by omega) (by omega) (fun h116 => ?_) (fun h116 => ?_)
          · refine w_iload_n C dX7_makes_124 rfl ?_
            refine w_istore_n C dX7_makes_125 (by decide) ?_
            refine Wm.lsub (lv' := [(0, aO 40 0), (1, aI y), (2, aI k), (3, aI (mkN S P y k (n + 1) : Nat)), (4, aI n)]) ⟨rfl, rfl, rfl, congrArg (fun z : Int => some (aI z)) ?_, rfl, trivial⟩ (i7 b hn)
            rw [hmk]
            omega
          · refine w_iload C dX7_makes_119 rfl ?_
            refine w_goto C dX7_makes_121 ?_
            refine w_istore_n C dX7_makes_125 (by decide) ?_
            refine Wm.lsub (lv' := [(0, aO 40 0), (1, aI y), (2, aI k), (3, aI (mkN S P y k (n + 1) : Nat)), (4, aI n)]) ⟨rfl, rfl, rfl, congrArg (fun z : Int => some (aI z)) ?_, rfl, trivial⟩ (i7 b hn)
            rw [hmk]
            omega
      refine w_iload C dX7_makes_7 rfl ?_
      refine w_aload_n C dX7_makes_9 rfl ?_
      refine g_X7_143 C dX7_makes_10 (by first | assumption | exact Nat.zero_lt_one | exact Nat.zero_lt_two | exact Nat.one_lt_two) ?_
      refine w_icmp_ge C dX7_makes_13 (by omega) (by omega) (fun h13 => ?_) (fun h13 => ?_)
      · omega
      · refine w_aload_n C dX7_makes_16 rfl ?_
        refine g_X7_73 C dX7_makes_17 (by first | assumption | exact Nat.zero_lt_one | exact Nat.zero_lt_two | exact Nat.one_lt_two) ?_
        refine w_bipush (v := 8) C dX7_makes_20 rfl ?_
        refine w_iload_n C dX7_makes_22 rfl ?_
        refine w_imul C dX7_makes_23 ?_
        refine w_iload C dX7_makes_24 rfl ?_
        refine w_iadd C dX7_makes_26 ?_
        refine w_ialdN (j := 8 * y + n) C dX7_makes_27 (by first | assumption | exact Nat.zero_lt_one | exact Nat.zero_lt_two | exact Nat.one_lt_two) IA_61 (by omega) (by omega) ?_
        rw [c1]
        refine w_istore C dX7_makes_28 (by decide) ?_
        refine w_iload C dX7_makes_30 rfl ?_
        refine w_if_le C dX7_makes_32 (by omega) (fun h32 => ?_) (fun h32 => ?_)
        · refine Wm.lsub (lv' := [(0, aO 40 0), (1, aI y), (2, aI k), (3, aI (mkN S P y k (n + 1) : Nat)), (4, aI n)]) ⟨rfl, rfl, rfl, congrArg (fun z : Int => some (aI z)) ?_, rfl, trivial⟩ (i7 b hn)
          rw [hmk, if_neg (by omega)]
        · refine w_aload_n C dX7_makes_35 rfl ?_
          refine g_X7_43 C dX7_makes_36 (by first | assumption | exact Nat.zero_lt_one | exact Nat.zero_lt_two | exact Nat.one_lt_two) ?_
          refine w_iconst C dX7_makes_39 ?_
          refine w_iload C dX7_makes_40 rfl ?_
          refine w_imul C dX7_makes_42 ?_
          refine w_ialdN (j := 2 * n) C dX7_makes_43 (by first | assumption | exact Nat.zero_lt_one | exact Nat.zero_lt_two | exact Nat.one_lt_two) IA_52 (by omega) (by omega) ?_
          rw [a8]
          refine w_iload_n C dX7_makes_44 rfl ?_
          refine w_aload_n C dX7_makes_45 rfl ?_
          refine w_iload C dX7_makes_46 rfl ?_
          refine w_iconst C dX7_makes_48 ?_
          refine w_callV C dX7_makes_49 (c_X7_givenBy hl hI hR.1.2.2.2.2.2.2.1 hR.1.2.2.1 n (by omega) a2 hR.2.2.2.2.1 0 (by omega)) mX7_givenBy vX7_givenBy lk_X7_258 (by first | assumption | exact Nat.zero_lt_one | exact Nat.zero_lt_two | exact Nat.one_lt_two) rfl rfl rfl rfl ⟨by decide, by decide, by decide, by decide⟩ (Nat.le_of_ble_eq_true rfl) (fun _ _ h => h.elim) ⟨by decide, by decide⟩ (fun r_ M_ q49 => ?_)
          obtain ⟨rfl, rfl⟩ := q49
          refine w_imul C dX7_makes_52 ?_
          refine w_iadd C dX7_makes_53 ?_
          refine w_iload C dX7_makes_54 rfl ?_
          refine w_idiv C dX7_makes_56 (by omega) (by omega) ?_
          refine Wm.top (v' := aI ((stS S n 0 + k * perS S P n 0) / ctS S y n : Nat)) rfl ?_
          refine w_istore C dX7_makes_57 (by decide) ?_
          refine w_aload_n C dX7_makes_59 rfl ?_
          refine g_X7_21 C dX7_makes_60 (by first | assumption | exact Nat.zero_lt_one | exact Nat.zero_lt_two | exact Nat.one_lt_two) ?_
          refine w_iload C dX7_makes_63 rfl ?_
          refine w_zaldN (j := n) C dX7_makes_65 (by first | assumption | exact Nat.zero_lt_one | exact Nat.zero_lt_two | exact Nat.one_lt_two) ZA_42 (by omega) (by omega) ?_
          rw [a2]
          refine w_if_eq C dX7_makes_66 (by omega) (fun h66 => ?_) (fun h66 => ?_)
          · refine w_iload C dX7_makes_96 rfl ?_
            refine Wm.lsub (lv' := [(0, aO 40 0), (1, aI y), (2, aI k), (3, aI (mkN S P y k n : Nat)), (4, aI n), (6, aI ((stS S n 0 + k * perS S P n 0) / ctS S y n : Nat))]) ⟨rfl, rfl, rfl, rfl, rfl, rfl, trivial⟩ (Wm.top ?_ (K98 (by omega)))
            first | (rw [if_pos (by omega)]; rfl) | (rw [if_neg (by omega)])
          · refine w_aload_n C dX7_makes_69 rfl ?_
            refine g_X7_43 C dX7_makes_70 (by first | assumption | exact Nat.zero_lt_one | exact Nat.zero_lt_two | exact Nat.one_lt_two) ?_
            refine w_iconst C dX7_makes_73 ?_
            refine w_iload C dX7_makes_74 rfl ?_
            refine w_imul C dX7_makes_76 ?_
            refine w_iconst C dX7_makes_77 ?_
            refine w_iadd C dX7_makes_78 ?_
            refine w_ialdN (j := 2 * n + 1) C dX7_makes_79 (by first | assumption | exact Nat.zero_lt_one | exact Nat.zero_lt_two | exact Nat.one_lt_two) IA_52 (by omega) (by omega) ?_
            rw [a9]
            refine w_iload_n C dX7_makes_80 rfl ?_
            refine w_aload_n C dX7_makes_81 rfl ?_
            refine w_iload C dX7_makes_82 rfl ?_
            refine w_iconst C dX7_makes_84 ?_
            refine w_callV C dX7_makes_85 (c_X7_givenBy hl hI hR.1.2.2.2.2.2.2.1 hR.1.2.2.1 n (by omega) a2 hR.2.2.2.2.1 1 (by omega)) mX7_givenBy vX7_givenBy lk_X7_258 (by first | assumption | exact Nat.zero_lt_one | exact Nat.zero_lt_two | exact Nat.one_lt_two) rfl rfl rfl rfl ⟨by decide, by decide, by decide, by decide⟩ (Nat.le_of_ble_eq_true rfl) (fun _ _ h => h.elim) ⟨by decide, by decide⟩ (fun r_ M_ q85 => ?_)
            obtain ⟨rfl, rfl⟩ := q85
            refine w_imul C dX7_makes_88 ?_
            refine w_iadd C dX7_makes_89 ?_
            refine w_iload C dX7_makes_90 rfl ?_
            refine w_idiv C dX7_makes_92 (by omega) (by omega) ?_
            refine w_goto C dX7_makes_93 ?_
            refine Wm.lsub (lv' := [(0, aO 40 0), (1, aI y), (2, aI k), (3, aI (mkN S P y k n : Nat)), (4, aI n), (6, aI ((stS S n 0 + k * perS S P n 0) / ctS S y n : Nat))]) ⟨rfl, rfl, rfl, rfl, rfl, rfl, trivial⟩ (Wm.top ?_ (K98 (by omega)))
            first | (rw [if_pos (by omega)]; rfl) | (rw [if_neg (by omega)])
  refine w_ldcw C dX7_makes_0 kc_X7_274 ?_
  refine w_istore_n C dX7_makes_3 (by decide) ?_
  refine w_iconst C dX7_makes_4 ?_
  refine w_istore C dX7_makes_5 (by decide) ?_
  exact Wm.lsub (lv' := [(0, aO 40 0), (1, aI y), (2, aI k), (3, aI (mkN S P y k 0 : Nat)), (4, aI ((0 : Nat) : Int))]) ⟨rfl, rfl, rfl, rfl, rfl, trivial⟩ (loop (nsS S) 0 (by omega))
theorem c_X7_canMake (hl : l.stackTraces = false) {S : Sg} {P : List Pc} {nx : Nat} (hI : Inv S P nx) (hR : RepMo S P nx M) (a : Int) (ha : -2147483648 ≤ a ∧ a ≤ 2147483647) : Con l b0 yX7_canMake cX7_canMake 2 (some .int) 3 0 0 [aO 40 0, aI a] ad cntM M (okM (oCanMake a S P nx)) noX := by
  have g7 := hI.1.2.2.2.2.2.2.1
  have b1 := b2_01 (0 ≤ a ∧ a < ntS S)
  refine Con.of hl pl_X7 (Nat.le_of_ble_eq_true rfl) ?_
  intro D cA p e s m args below meth c C hr
  refine w_aload_n C dX7_canMake_0 rfl ?_
  refine w_aload_n C dX7_canMake_1 rfl ?_
  refine w_iload_n C dX7_canMake_2 rfl ?_
  refine w_callV C dX7_canMake_3 (c_X7_isStyle hl hI.1 hR a ha) mX7_isStyle vX7_isStyle lk_X7_230 (by first | assumption | exact Nat.zero_lt_one | exact Nat.zero_lt_two | exact Nat.one_lt_two) rfl rfl rfl rfl ⟨by decide, by decide, by decide, by decide⟩ (Nat.le_of_ble_eq_true rfl) (fun _ _ h => h.elim) ⟨by decide, by decide⟩ (fun r_ M_ q3 => ?_)
  obtain ⟨rfl, rfl⟩ := q3
  refine w_if_ne C dX7_canMake_6 (by omega) (fun h6 => ?_) (fun h6 => ?_)
  · have y1 := b2_n0 h6
    obtain ⟨u, rfl⟩ := Int.eq_ofNat_of_zero_le y1.1
    have ht := tak_le hI.1 u
    refine w_aload_n C dX7_canMake_13 rfl ?_
    refine w_iload_n C dX7_canMake_14 rfl ?_
    refine w_callV C dX7_canMake_15 (c_X7_takenBy hl hI.1 hR u (by omega)) mX7_takenBy vX7_takenBy lk_X7_233 (by first | assumption | exact Nat.zero_lt_one | exact Nat.zero_lt_two | exact Nat.one_lt_two) rfl rfl rfl rfl ⟨by decide, by decide, by decide, by decide⟩ (Nat.le_of_ble_eq_true rfl) (fun _ _ h => h.elim) ⟨by decide, by decide⟩ (fun r_ M_ q15 => ?_)
    obtain ⟨rfl, rfl⟩ := q15
    refine w_if_ne C dX7_canMake_18 (by omega) (fun h18 => ?_) (fun h18 => ?_)
    · refine w_iconst C dX7_canMake_25 ?_
      refine w_callV C dX7_canMake_26 (c_X7_failsN hl 0 (by omega)) mX7_fails vX7_fails lk_X7_129 (by first | assumption | exact Nat.zero_lt_one | exact Nat.zero_lt_two | exact Nat.one_lt_two) rfl rfl rfl rfl ⟨by decide, by decide, by decide, by decide⟩ (Nat.le_of_ble_eq_true rfl) (fun _ _ h => h.elim) ⟨by decide, by decide⟩ (fun r_ MF q26 => ?_)
      obtain ⟨kF, kT, rfl⟩ := q26
      have hRF := hR.fr kF.fr
      refine w_if_eq_y C dX7_canMake_29 (by omega) (by decide) ?_
      refine w_aload_n C dX7_canMake_36 rfl ?_
      refine w_iload_n C dX7_canMake_37 rfl ?_
      refine w_iconst C dX7_canMake_38 ?_
      refine w_callV C dX7_canMake_39 (c_X7_makes hl hI hRF u (by omega) 0 (by omega)) mX7_makes vX7_makes lk_X7_275 (by first | assumption | exact Nat.zero_lt_one | exact Nat.zero_lt_two | exact Nat.one_lt_two) rfl rfl rfl rfl ⟨by decide, by decide, by decide, by decide⟩ (Nat.le_of_ble_eq_true rfl) (fun _ _ h => h.elim) ⟨by decide, by decide⟩ (fun r_ M_ q39 => ?_)
      obtain ⟨rfl, rfl⟩ := q39
      refine w_iret C hr dX7_canMake_42 rfl (by
          first
          | exact okM_no (i := 1) (v := 0) (by unfold oCanMake; rw [if_pos y1]) (by decide) rfl kT hRF
          | exact okM_no (i := 2) (v := 0) (by unfold oCanMake; rw [if_neg (fun q => q y1), Int.toNat_natCast, if_pos (by omega)]) (by decide) rfl kT hRF
          | exact okM_of (by unfold oCanMake; rw [if_neg (fun q => q y1), Int.toNat_natCast, if_neg (by omega)]) (by rw [giN_mk (P := P) hI.1 (by omega)]) kT hRF) (by decide) (by decide)
    · refine w_iconst C dX7_canMake_21 ?_
      refine w_goto C dX7_canMake_22 ?_
      refine w_callV C dX7_canMake_26 (c_X7_failsY hl 2 (by omega)) mX7_fails vX7_fails lk_X7_129 (by first | assumption | exact Nat.zero_lt_one | exact Nat.zero_lt_two | exact Nat.one_lt_two) rfl rfl rfl rfl ⟨by decide, by decide, by decide, by decide⟩ (Nat.le_of_ble_eq_true rfl) (fun _ _ h => h.elim) ⟨by decide, by decide⟩ (fun r_ MF q26 => ?_)
      obtain ⟨kF, kT, rfl⟩ := q26
      have hRF := hR.fr kF.fr
      refine w_if_eq_n C dX7_canMake_29 (by omega) (by decide) ?_
      refine w_iconst C dX7_canMake_32 ?_
      refine w_goto C dX7_canMake_33 ?_
      refine w_iret C hr dX7_canMake_42 rfl (by
          first
          | exact okM_no (i := 1) (v := 0) (by unfold oCanMake; rw [if_pos y1]) (by decide) rfl kT hRF
          | exact okM_no (i := 2) (v := 0) (by unfold oCanMake; rw [if_neg (fun q => q y1), Int.toNat_natCast, if_pos (by omega)]) (by decide) rfl kT hRF
          | exact okM_of (by unfold oCanMake; rw [if_neg (fun q => q y1), Int.toNat_natCast, if_neg (by omega)]) (by rw [giN_mk (P := P) hI.1 (by omega)]) kT hRF) (by decide) (by decide)
  · have y1 := b2_is0 (Decidable.not_not.mp h6)
    refine w_iconst C dX7_canMake_9 ?_
    refine w_goto C dX7_canMake_10 ?_
    refine w_callV C dX7_canMake_26 (c_X7_failsY hl 1 (by omega)) mX7_fails vX7_fails lk_X7_129 (by first | assumption | exact Nat.zero_lt_one | exact Nat.zero_lt_two | exact Nat.one_lt_two) rfl rfl rfl rfl ⟨by decide, by decide, by decide, by decide⟩ (Nat.le_of_ble_eq_true rfl) (fun _ _ h => h.elim) ⟨by decide, by decide⟩ (fun r_ MF q26 => ?_)
    obtain ⟨kF, kT, rfl⟩ := q26
    have hRF := hR.fr kF.fr
    refine w_if_eq_n C dX7_canMake_29 (by omega) (by decide) ?_
    refine w_iconst C dX7_canMake_32 ?_
    refine w_goto C dX7_canMake_33 ?_
    refine w_iret C hr dX7_canMake_42 rfl (by
        first
        | exact okM_no (i := 1) (v := 0) (by unfold oCanMake; rw [if_pos y1]) (by decide) rfl kT hRF
        | exact okM_no (i := 2) (v := 0) (by unfold oCanMake; rw [if_neg (fun q => q y1), Int.toNat_natCast, if_pos (by omega)]) (by decide) rfl kT hRF
        | exact okM_of (by unfold oCanMake; rw [if_neg (fun q => q y1), Int.toNat_natCast, if_neg (by omega)]) (by rw [giN_mk (P := P) hI.1 (by omega)]) kT hRF) (by decide) (by decide)
theorem c_X7_canMakeByTaking (hl : l.stackTraces = false) {S : Sg} {P : List Pc} {nx : Nat} (hI : Inv S P nx) (hR : RepMo S P nx M) (a : Int) (ha : -2147483648 ≤ a ∧ a ≤ 2147483647) : Con l b0 yX7_canMakeByTaking cX7_canMakeByTaking 2 (some .int) 4 0 0 [aO 40 0, aI a] ad cntM M (okM (oCanMake a S P nx)) noX := by
  refine Con.of hl pl_X7 (Nat.le_of_ble_eq_true rfl) ?_
  intro D cA p e s m args below meth c C hr
  refine w_aload_n C dX7_canMakeByTaking_0 rfl ?_
  refine w_iload_n C dX7_canMakeByTaking_1 rfl ?_
  refine w_callV C dX7_canMakeByTaking_2 (c_X7_canMake hl hI hR a ha) mX7_canMake vX7_canMake lk_X7_278 (by first | assumption | exact Nat.zero_lt_one | exact Nat.zero_lt_two | exact Nat.one_lt_two) rfl rfl rfl rfl ⟨by decide, by decide, by decide, by decide⟩ (Nat.le_of_ble_eq_true rfl) (fun _ _ h => h.elim) ⟨by decide, by decide⟩ (fun r_ M_ q2 => ?_)
  obtain ⟨k1, k2, v, rfl, k3⟩ := q2
  refine w_iret C hr dX7_canMakeByTaking_5 rfl (⟨k1, k2, v, rfl, k3⟩) (by decide) (by decide)
end Mo
