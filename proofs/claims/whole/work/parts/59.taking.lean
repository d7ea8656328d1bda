/-! the room: takesGarment -/
def tkU (S : Sg) (y g n k : Nat) : Int := if k / 2 < nsS S then (stS S (k / 2) (k % 2) : Int) - (((g + (if k / 2 < n then 1 else 0)) * (if k % 2 = 0 ∨ paS S (k / 2) = 1 then ctS S y (k / 2) else 0) : Nat) : Int) else 0
def okT (S : Sg) (y g n : Nat) : Prop := ∀ j, j < n → g * ctS S y j ≤ stS S j 0 ∧ (paS S j = 1 → g * ctS S y j ≤ stS S j 1)
theorem tkU_ev {S : Sg} {y g n j : Nat} (hj : j < nsS S) : tkU S y g n (2 * j) = (stS S j 0 : Int) - (((g + (if j < n then 1 else 0)) * ctS S y j : Nat) : Int) := by
  unfold tkU
  rw [show 2 * j / 2 = j by omega, show 2 * j % 2 = 0 by omega, if_pos hj, if_pos (Or.inl rfl)]
theorem tkU_od {S : Sg} {y g n j : Nat} (hj : j < nsS S) : tkU S y g n (2 * j + 1) = (stS S j 1 : Int) - (((g + (if j < n then 1 else 0)) * (if paS S j = 1 then ctS S y j else 0) : Nat) : Int) := by
  unfold tkU
  rw [show (2 * j + 1) / 2 = j by omega, show (2 * j + 1) % 2 = 1 by omega, if_pos hj]
  by_cases h : paS S j = 1
  · rw [if_pos (Or.inr h), if_pos h]
  · have hn : ¬ (1 = 0 ∨ paS S j = 1) := by
      rintro (q | q)
      · cases q
      · exact h q
    rw [if_neg hn, if_neg h]
theorem tkU_st {S : Sg} {y g n k : Nat} (h : k / 2 ≠ n) : tkU S y g (n + 1) k = tkU S y g n k := by
  unfold tkU
  have : (if k / 2 < n + 1 then 1 else 0) = (if k / 2 < n then 1 else 0) := by
    by_cases h1 : k / 2 < n
    · rw [if_pos h1, if_pos (by omega)]
    · rw [if_neg h1, if_neg (by omega)]
  rw [this]
theorem tkU_end {S : Sg} {y g k : Nat} : tkU S y g (nsS S) k = tkU S y (g + 1) 0 k := by
  unfold tkU
  by_cases h : k / 2 < nsS S
  · rw [if_pos h, if_pos h, if_pos h, if_neg (Nat.not_lt_zero _)]
  · rw [if_neg h, if_neg h]
section Rm
variable {l : Launch} {b0 : Nat → Prop} {ad : Ads} {ns nt : Nat} {M : Mem}
theorem c_X6_takesGarment (hl : l.stackTraces = false) {S : Sg} (hG : GInv S) (hRm : RepRm S M) (hSh : RepSh S M) (hns : nsS S ≤ ns) {y : Nat} (hy : inD (cnt ns nt) 6 y) (hct : ∀ j, j < 8 → M.1 32 y j = ctS S y j) (g : Nat) (hg : g ≤ 9999) (hU : ∀ k, k < 16 → M.1 29 0 k = tkU S y g 0 k) : Con l b0 yX6_takesGarment cX6_takesGarment 5 (some .boolean) 4 0 0 [aO 0 0, aO 6 y] ad (cnt ns nt) M (fun r9 M' => Fr (fun k i => k = 29 ∧ i = 0) M M' ∧ ∃ z : Int, r9 = some (aI z) ∧ (z = 0 ∨ z = 1) ∧ (z = 1 ↔ okT S y (g + 1) (nsS S)) ∧ (z = 1 → ∀ k, k < 16 → M'.1 29 0 k = tkU S y (g + 1) 0 k)) noX := by
  have g6 := hG.2.2.2.2.2.1
  have hy2 : inD (cnt ns nt) 32 y := hy
  have n0 : ∀ {k i : Nat}, k ≠ 29 → ¬ (k = 29 ∧ i = 0) := fun h q => h q.1
  refine Con.of hl pl_X6 (Nat.le_of_ble_eq_true rfl) ?_
  intro D cA p e s m args below meth c C hr
  have loop : ∀ (b n : Nat) (M1 : Mem), n + b = nsS S → Fr (fun k i => k = 29 ∧ i = 0) M M1 → (∀ k, k < 16 → M1.1 29 0 k = tkU S y g n k) → okT S y (g + 1) n → Wm p l e (rmd 4 0 0) s m args below meth c 5 D cA b0 0 0 (vx_MQ below (mQ D cA b0 ad (cnt ns nt) (fun r9 M' => Fr (fun k i => k = 29 ∧ i = 0) M M' ∧ ∃ z : Int, r9 = some (aI z) ∧ (z = 0 ∨ z = 1) ∧ (z = 1 ↔ okT S y (g + 1) (nsS S)) ∧ (z = 1 → ∀ k, k < 16 → M'.1 29 0 k = tkU S y (g + 1) 0 k))) (mX D cA b0 ad (cnt ns nt) noX) args s 0 0 b0) 2 [(0, aO 0 0), (1, aO 6 y), (2, aI n)] [] ad (cnt ns nt) M1 := by
    intro b
    induction b with
    | zero =>
      intro n M1 hn hF hU1 hok
      have hc : M1.1 0 0 3 = (nsS S : Nat) := by rw [(hF 0 0 (n0 (by decide))).1]; exact hRm.1
      refine w_iload_n C dX6_takesGarment_2 rfl ?_
      refine w_aload_n C dX6_takesGarment_3 rfl ?_
      refine g_X6_123 C dX6_takesGarment_4 (by first | assumption | exact Nat.zero_lt_one | exact Nat.zero_lt_two | exact Nat.one_lt_two) ?_
      rw [hc]
      refine w_icmp_ge C dX6_takesGarment_7 (by omega) (by omega) (fun h7 => ?_) (fun h7 => ?_)
      · refine w_iconst C dX6_takesGarment_52 ?_
        have en : n = nsS S := by omega
        subst en
        refine w_iret C hr dX6_takesGarment_53 (by first | exact narrow_z (b2_01 _) | exact narrow_z (by omega)) (⟨hF, 1, rfl, Or.inr rfl, ⟨fun _ => hok, fun _ => rfl⟩, fun _ k hk => by rw [hU1 k hk, tkU_end]⟩) (by decide) (by decide)
      · omega
    | succ b ih =>
      intro n M1 hn hF hU1 hok
      have hRm1 : RepRm S M1 := RepRm.fr hF (n0 (by decide)) (n0 (by decide)) (n0 (by decide)) hRm
      have hc := hRm1.1
      have hj : n < nsS S := by omega
      have i4 : inD (cnt ns nt) 4 n := by
        show n < ns
        omega
      obtain ⟨p1, p2, p3, p4, p5, p6, p7, p8, p9⟩ := hG.2.2.2.2.2.2.2.2.2.1 n
      have hc4 := hG.2.2.2.2.2.2.2.2.2.2.1 y n
      have m1 : g * ctS S y n ≤ 9999 * 4 := Nat.mul_le_mul hg hc4
      have u0 := hU1 (2 * n) (by omega)
      have u1 := hU1 (2 * n + 1) (by omega)
      rw [tkU_ev hj, if_neg (Nat.lt_irrefl _)] at u0
      rw [tkU_od hj, if_neg (Nat.lt_irrefl _)] at u1
      simp only [Nat.add_zero] at u0 u1
      have m2 : g * (if paS S n = 1 then ctS S y n else 0) ≤ 9999 * 4 := Nat.mul_le_mul hg (by split <;> omega)
      have e1 : (g + 1) * ctS S y n = g * ctS S y n + ctS S y n := Nat.succ_mul _ _
      have hcond : (0 ≤ (stS S n 0 : Int) - (g * ctS S y n : Nat) - (ctS S y n : Nat) ∧ (paS S n = 1 → 0 ≤ (stS S n 1 : Int) - (g * (if paS S n = 1 then ctS S y n else 0) : Nat) - (ctS S y n : Nat))) ↔ ((g + 1) * ctS S y n ≤ stS S n 0 ∧ (paS S n = 1 → (g + 1) * ctS S y n ≤ stS S n 1)) := by
        constructor
        · rintro ⟨z1, z2⟩
          refine ⟨by omega, fun q => ?_⟩
          have := z2 q
          rw [if_pos q] at this
          omega
        · rintro ⟨z1, z2⟩
          refine ⟨by omega, fun q => ?_⟩
          have := z2 q
          rw [if_pos q]
          omega
      refine w_iload_n C dX6_takesGarment_2 rfl ?_
      refine w_aload_n C dX6_takesGarment_3 rfl ?_
      refine g_X6_123 C dX6_takesGarment_4 (by first | assumption | exact Nat.zero_lt_one | exact Nat.zero_lt_two | exact Nat.one_lt_two) ?_
      rw [hc]
      refine w_icmp_ge C dX6_takesGarment_7 (by omega) (by omega) (fun h7 => ?_) (fun h7 => ?_)
      · omega
      · refine w_aload_n C dX6_takesGarment_10 rfl ?_
        refine w_iload_n C dX6_takesGarment_11 rfl ?_
        refine w_callV C dX6_takesGarment_12 (c_X6_shapeNumbered hl hG hRm1 (n : Int) (by omega)) mX6_shapeNumbered vX6_shapeNumbered lk_X6_169 (by first | assumption | exact Nat.zero_lt_one | exact Nat.zero_lt_two | exact Nat.one_lt_two) rfl rfl rfl rfl ⟨by decide, by decide, by decide, by decide⟩ (Nat.le_of_ble_eq_true rfl) (fun _ _ h => h.elim) ⟨by decide, by decide⟩ (fun r_ M_ q12 => ?_)
        obtain ⟨rfl, rfl⟩ := q12
        rw [if_pos (by omega), Int.toNat_natCast]
        refine w_astore_n C dX6_takesGarment_15 (by decide) ?_
        refine w_aload_n C dX6_takesGarment_16 rfl ?_
        refine g_X6_285 C dX6_takesGarment_17 (by first | assumption | exact Nat.zero_lt_one | exact Nat.zero_lt_two | exact Nat.one_lt_two) ?_
        refine w_iload_n C dX6_takesGarment_20 rfl ?_
        refine w_callS C dX6_takesGarment_21 (c_X6_entry hl IA_32 hy2 (n : Int) (by omega)) mX6_entry sX6_entry lk_X6_264 rfl rfl ⟨by decide, by decide, by decide, by decide⟩ (Nat.le_of_ble_eq_true rfl) (fun _ _ h => h.elim) ⟨by decide, by decide⟩ (fun r_ M_ q21 => ?_)
        obtain ⟨rfl, rfl⟩ := q21
        rw [rd_ok (by omega), (hF 32 y (n0 (by decide))).1, hct n (by omega)]
        refine w_istore C dX6_takesGarment_24 (by decide) ?_
        refine w_aload_n C dX6_takesGarment_26 rfl ?_
        refine w_ifnull C dX6_takesGarment_27 (fun h27 => ?_) (fun h27 => ?_)
        · cases h27
        · refine w_aload_n C dX6_takesGarment_30 rfl ?_
          refine w_iload_n C dX6_takesGarment_31 rfl ?_
          refine w_aload_n C dX6_takesGarment_32 rfl ?_
          refine g_X6_312 C dX6_takesGarment_33 (by first | assumption | exact Nat.zero_lt_one | exact Nat.zero_lt_two | exact Nat.one_lt_two) ?_
          rw [(hF 4 n (n0 (by decide))).1, (hSh n hj).1.2.1]
          refine w_iload C dX6_takesGarment_36 rfl ?_
          refine w_callV C dX6_takesGarment_38 (c_X6_takesPart hl n (by omega) u0 u1 (by omega) (by omega) (paS S n) p1 (ctS S y n) hc4) mX6_takesPart vX6_takesPart lk_X6_407 (by first | assumption | exact Nat.zero_lt_one | exact Nat.zero_lt_two | exact Nat.one_lt_two) rfl rfl rfl rfl ⟨by decide, by decide, by decide, by decide⟩ (Nat.le_of_ble_eq_true rfl) (fun _ _ h => h.elim) ⟨by decide, by decide⟩ (fun r_ M2 q38 => ?_)
          obtain ⟨k1, k2, rfl⟩ := q38
          have h01 := b2_01 (0 ≤ (stS S n 0 : Int) - (g * ctS S y n : Nat) - (ctS S y n : Nat) ∧ (paS S n = 1 → 0 ≤ (stS S n 1 : Int) - (g * (if paS S n = 1 then ctS S y n else 0) : Nat) - (ctS S y n : Nat)))
          refine w_if_ne C dX6_takesGarment_41 (by omega) (fun h41 => ?_) (fun h41 => ?_)
          · have y1 := hcond.mp (Decidable.byContradiction fun q => h41 (b2_f q))
            have k3 := k2 (hcond.mpr y1)
            refine w_iinc C dX6_takesGarment_46 rfl (by decide) ?_
            refine w_goto C dX6_takesGarment_49 ?_
            refine Wm.lsub (lv' := [(0, aO 0 0), (1, aO 6 y), (2, aI ((n + 1 : Nat) : Int))]) ⟨rfl, rfl, rfl, trivial⟩ (ih (n + 1) M2 (by omega) (hF.tr k1) (fun k hk => ?_) (fun j hj9 => ?_))
            · by_cases hkn : k / 2 = n
              · rcases (show k = 2 * n ∨ k = 2 * n + 1 by omega) with rfl | rfl
                · rw [tkU_ev hj, if_pos (Nat.lt_succ_self n), k3]
                  split
                  · rw [uI_get, if_neg (fun q => absurd q.2.2 (by omega)), uI_get, if_pos ⟨rfl, rfl, rfl⟩]
                    omega
                  · rw [uI_get, if_pos ⟨rfl, rfl, rfl⟩]
                    omega
                · rw [tkU_od hj, if_pos (Nat.lt_succ_self n), k3]
                  by_cases hp : paS S n = 1
                  · rw [if_pos hp, if_pos hp, uI_get, if_pos ⟨rfl, rfl, rfl⟩]
                    omega
                  · rw [if_neg hp, if_neg hp, uI_get, if_neg (fun q => absurd q.2.2 (by omega)), u1, if_neg hp, Nat.mul_zero, Nat.mul_zero]
              · rw [tkU_st hkn, ← hU1 k hk, k3]
                split
                · rw [uI_get, if_neg (fun q => hkn (by omega)), uI_get, if_neg (fun q => hkn (by omega))]
                · rw [uI_get, if_neg (fun q => hkn (by omega))]
            · by_cases hjn : j = n
              · rw [hjn]
                exact y1
              · exact hok j (by omega)
          · have y1 : ¬ ((g + 1) * ctS S y n ≤ stS S n 0 ∧ (paS S n = 1 → (g + 1) * ctS S y n ≤ stS S n 1)) := fun q => h41 (by rw [b2_t (hcond.mpr q)]; decide)
            refine w_iconst C dX6_takesGarment_44 ?_
            refine w_iret C hr dX6_takesGarment_45 (by first | exact narrow_z (b2_01 _) | exact narrow_z (by omega)) (⟨hF.tr k1, 0, rfl, Or.inl rfl, ⟨fun q => by omega, fun q => absurd (q n hj) y1⟩, fun q => by omega⟩) (by decide) (by decide)
  refine w_iconst C dX6_takesGarment_0 ?_
  refine w_istore_n C dX6_takesGarment_1 (by decide) ?_
  exact Wm.lsub (lv' := [(0, aO 0 0), (1, aO 6 y), (2, aI ((0 : Nat) : Int))]) ⟨rfl, rfl, rfl, trivial⟩ (loop (nsS S) 0 M (by omega) Fr.rf hU (fun j hj => absurd hj (Nat.not_lt_zero j)))
end Rm
