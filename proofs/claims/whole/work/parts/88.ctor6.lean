/-! the constructor of the room -/
def Room0 (M : Mem) : Prop := (∀ t, M.1 0 0 t = 0) ∧ (∀ t, M.1 1 0 t = if t = 0 then 12 else 0) ∧ (∀ t, M.1 20 0 t = 0) ∧ (∀ t, M.1 21 0 t = 0) ∧
  (∀ x, x < 2 → (∀ t, M.1 2 x t = 0) ∧ (∀ t, t < 40 → M.2.1 12 x t = some (40 * x + t)) ∧ (∀ t, t < 720 → M.1 22 x t = -1) ∧ ∀ k, (k = 23 ∨ k = 24 ∨ k = 25 ∨ k = 26) → ∀ t, M.1 k x t = 0) ∧ (∀ i, i < 80 → (∀ t, M.1 3 i t = 0) ∧ ∀ t, M.2.1 3 i t = none) ∧
  (∀ t, M.2.1 10 0 t = none ∧ M.2.1 11 0 t = none) ∧ ∀ t, M.1 27 0 t = 0 ∧ M.1 28 0 t = 0 ∧ M.1 29 0 t = 0
theorem c_X6_init {l : Launch} (hl : l.stackTraces = false) {b0 : Nat → Prop} {ad : Ads} {cn : Nat → Nat} {M : Mem} (h96 : cn 96 = 1) (hc : ∀ k, (k = 0 ∨ k = 1 ∨ k = 2 ∨ k = 3 ∨ k = 10 ∨ k = 11 ∨ k = 12 ∨ (20 ≤ k ∧ k ≤ 29) ∨ k = 90 ∨ k = 91) → cn k = 0) (hz : M.1 96 0 = fun _ => 0) (hzl : M.2.2.1 96 0 = fun _ => 0) : ConN l b0 yX6_init cX6_init 1 none 3 102 2527 [aO 96 0] ad cn M (fun r ad' cn' M' => r = none ∧ ad' 0 0 = ad 96 0 ∧ (∀ k' i', k' ∉ [0, 1, 2, 3, 10, 11, 12, 20, 21, 22, 23, 24, 25, 26, 27, 28, 29, 90, 91] → ad' k' i' = ad k' i') ∧ cn' = (fun k => if k = 0 ∨ k = 1 ∨ k = 10 ∨ k = 11 ∨ k = 20 ∨ k = 21 ∨ k = 27 ∨ k = 28 ∨ k = 29 then 1 else if k = 2 ∨ k = 12 ∨ k = 22 ∨ k = 23 ∨ k = 24 ∨ k = 25 ∨ k = 26 then 2 else if k = 3 then 80 else if k = 96 then 0 else cn k) ∧ Fr (fun k i => k ∈ [0, 1, 2, 3, 10, 11, 12, 20, 21, 22, 23, 24, 25, 26, 27, 28, 29, 90, 91, 96]) M M' ∧ Room0 M') (fun _ _ => False) := by
  refine ConN.of hl pl_X6 (Nat.le_of_ble_eq_true rfl) ?_
  intro D cA p e s m args below meth c C hr hnam
  have hnam : meth.name = "<init>" := hnam
  have c0 := hc 0 (by omega)
  have c1 := hc 1 (by omega)
  have c2 := hc 2 (by omega)
  have c3 := hc 3 (by omega)
  have c10 := hc 10 (by omega)
  have c11 := hc 11 (by omega)
  have c12 := hc 12 (by omega)
  have c20 := hc 20 (by omega)
  have c21 := hc 21 (by omega)
  have c22 := hc 22 (by omega)
  have c23 := hc 23 (by omega)
  have c24 := hc 24 (by omega)
  have c25 := hc 25 (by omega)
  have c26 := hc 26 (by omega)
  have c27 := hc 27 (by omega)
  have c28 := hc 28 (by omega)
  have c29 := hc 29 (by omega)
  have c90 := hc 90 (by omega)
  have c91 := hc 91 (by omega)
  refine w_aload_n C dX6_init_0 rfl ?_
  refine w_objInit C dX6_init_1 lo_X6_3 mObjI mObjC ⟨by decide, by decide⟩ (Nat.le_of_ble_eq_true rfl) ?_
  refine w_aload_n C dX6_init_4 rfl ?_
  refine w_new_X0 (i := 0) C (by first | rfl | assumption | (simp [up1, h96, c0, c1, c2, c3, c10, c11, c12, c20, c21, c22, c23, c24, c25, c26, c27, c28, c29, c90, c91]; done)) dX6_init_5 lc_X6_9 rfl ⟨by first | decide | (show _ ≤ _; simp only [rmd]; omega), by first | decide | (show _ ≤ _; simp only [rmd]; omega)⟩ ?_
  intro ad5 hag5
  refine w_dup C dX6_init_8 rfl ?_
  refine w_ctor (ks := [1, 20, 21]) C dX6_init_9 (c_X0_init hl (by simp [up1]) (by simp [up1, c20]) (by simp [up1, c21]) (by simp [up1, c1]) (zM_on M 90 0).1) mX0_init vi_X0_init li_X6_11 rfl rfl ⟨by first | decide | (simp only [rmd]; omega), by first | decide | (simp only [rmd]; omega), by first | decide | (simp only [rmd]; omega), by first | decide | (simp only [rmd]; omega)⟩ (Nat.le_of_ble_eq_true rfl) rfl (fun _ _ _ _ h => ⟨h.1, h.2.1, h.2.2.1⟩) (fun ad9 cn9 M9 q9 => ?_)
  obtain ⟨-, a9, b9, rfl, f9, u1, u2, u3⟩ := q9
  refine rp_X6_12 C hnam dX6_init_12 (by first | assumption | (simp [inD, up1, cnC, h96, c0, c1, c2, c3, c10, c11, c12, c20, c21, c22, c23, c24, c25, c26, c27, c28, c29, c90, c91]; done) | (simp [inD, up1, cnC, h96, c0, c1, c2, c3, c10, c11, c12, c20, c21, c22, c23, c24, c25, c26, c27, c28, c29, c90, c91]; omega)) (by first | assumption | (simp [inD, up1, cnC, h96, c0, c1, c2, c3, c10, c11, c12, c20, c21, c22, c23, c24, c25, c26, c27, c28, c29, c90, c91]; done) | (simp [inD, up1, cnC, h96, c0, c1, c2, c3, c10, c11, c12, c20, c21, c22, c23, c24, c25, c26, c27, c28, c29, c90, c91]; omega)) ?_
  refine w_aload_n C dX6_init_15 rfl ?_
  refine w_new_X1 (i := 0) C (by first | rfl | assumption | (simp [up1, h96, c0, c1, c2, c3, c10, c11, c12, c20, c21, c22, c23, c24, c25, c26, c27, c28, c29, c90, c91]; done)) dX6_init_16 lc_X6_16 rfl ⟨by first | decide | (show _ ≤ _; simp only [rmd]; omega), by first | decide | (show _ ≤ _; simp only [rmd]; omega)⟩ ?_
  intro ad16 hag16
  refine w_dup C dX6_init_19 rfl ?_
  refine w_ctor (ks := [2, 3, 12, 22, 23, 24, 25, 26]) C dX6_init_20 (c_X1_init hl 0 (by simp [up1]) (by simp [up1, c2]) (by simp [up1, c12]) (by simp [up1, c3]) (by simp [up1, c22]) (by simp [up1, c23]) (by simp [up1, c24]) (by simp [up1, c25]) (by simp [up1, c26]) (zM_on _ 91 0).1) mX1_init vi_X1_init li_X6_18 rfl rfl ⟨by first | decide | (simp only [rmd]; omega), by first | decide | (simp only [rmd]; omega), by first | decide | (simp only [rmd]; omega), by first | decide | (simp only [rmd]; omega)⟩ (Nat.le_of_ble_eq_true rfl) rfl (fun _ _ _ _ h => ⟨h.1, h.2.1, h.2.2.1⟩) (fun ad20 cn20 M20 q20 => ?_)
  obtain ⟨-, a20, b20, rfl, f20, w1, w2, w3, w4, w5⟩ := q20
  refine rp_X6_19 C hnam dX6_init_23 (by first | assumption | (simp [inD, up1, cnC, h96, c0, c1, c2, c3, c10, c11, c12, c20, c21, c22, c23, c24, c25, c26, c27, c28, c29, c90, c91]; done) | (simp [inD, up1, cnC, h96, c0, c1, c2, c3, c10, c11, c12, c20, c21, c22, c23, c24, c25, c26, c27, c28, c29, c90, c91]; omega)) (by first | assumption | (simp [inD, up1, cnC, h96, c0, c1, c2, c3, c10, c11, c12, c20, c21, c22, c23, c24, c25, c26, c27, c28, c29, c90, c91]; done) | (simp [inD, up1, cnC, h96, c0, c1, c2, c3, c10, c11, c12, c20, c21, c22, c23, c24, c25, c26, c27, c28, c29, c90, c91]; omega)) ?_
  refine w_aload_n C dX6_init_26 rfl ?_
  refine w_bipush (v := 8) C dX6_init_27 rfl ?_
  refine w_newq (N := 8) (i := 0) C (by first | rfl | assumption | (simp [up1, h96, c0, c1, c2, c3, c10, c11, c12, c20, c21, c22, c23, c24, c25, c26, c27, c28, c29, c90, c91]; done)) dX6_init_29 lc_X6_23 (by simp [aoL]) rfl RA_10 (by decide) rfl rfl (by decide) ⟨by first | decide | (show _ ≤ _; simp only [rmd]; omega), by first | decide | (show _ ≤ _; simp only [rmd]; omega)⟩ ?_
  intro ad29 hag29
  refine rp_X6_25 C hnam dX6_init_32 (by first | assumption | (simp [inD, up1, cnC, h96, c0, c1, c2, c3, c10, c11, c12, c20, c21, c22, c23, c24, c25, c26, c27, c28, c29, c90, c91]; done) | (simp [inD, up1, cnC, h96, c0, c1, c2, c3, c10, c11, c12, c20, c21, c22, c23, c24, c25, c26, c27, c28, c29, c90, c91]; omega)) (by first | assumption | (simp [inD, up1, cnC, h96, c0, c1, c2, c3, c10, c11, c12, c20, c21, c22, c23, c24, c25, c26, c27, c28, c29, c90, c91]; done) | (simp [inD, up1, cnC, h96, c0, c1, c2, c3, c10, c11, c12, c20, c21, c22, c23, c24, c25, c26, c27, c28, c29, c90, c91]; omega)) ?_
  refine w_aload_n C dX6_init_35 rfl ?_
  refine w_iconst C dX6_init_36 ?_
  refine w_newq (N := 4) (i := 0) C (by first | rfl | assumption | (simp [up1, h96, c0, c1, c2, c3, c10, c11, c12, c20, c21, c22, c23, c24, c25, c26, c27, c28, c29, c90, c91]; done)) dX6_init_37 lc_X6_29 (by simp [aoL]) rfl RA_11 (by decide) rfl rfl (by decide) ⟨by first | decide | (show _ ≤ _; simp only [rmd]; omega), by first | decide | (show _ ≤ _; simp only [rmd]; omega)⟩ ?_
  intro ad37 hag37
  refine rp_X6_31 C hnam dX6_init_40 (by first | assumption | (simp [inD, up1, cnC, h96, c0, c1, c2, c3, c10, c11, c12, c20, c21, c22, c23, c24, c25, c26, c27, c28, c29, c90, c91]; done) | (simp [inD, up1, cnC, h96, c0, c1, c2, c3, c10, c11, c12, c20, c21, c22, c23, c24, c25, c26, c27, c28, c29, c90, c91]; omega)) (by first | assumption | (simp [inD, up1, cnC, h96, c0, c1, c2, c3, c10, c11, c12, c20, c21, c22, c23, c24, c25, c26, c27, c28, c29, c90, c91]; done) | (simp [inD, up1, cnC, h96, c0, c1, c2, c3, c10, c11, c12, c20, c21, c22, c23, c24, c25, c26, c27, c28, c29, c90, c91]; omega)) ?_
  refine w_aload_n C dX6_init_43 rfl ?_
  refine w_new_X1 (i := 0) C (by first | rfl | assumption | (simp [up1, h96, c0, c1, c2, c3, c10, c11, c12, c20, c21, c22, c23, c24, c25, c26, c27, c28, c29, c90, c91]; done)) dX6_init_44 lc_X6_16 rfl ⟨by first | decide | (show _ ≤ _; simp only [rmd]; omega), by first | decide | (show _ ≤ _; simp only [rmd]; omega)⟩ ?_
  intro ad44 hag44
  refine w_dup C dX6_init_47 rfl ?_
  refine w_ctor (ks := [2, 3, 12, 22, 23, 24, 25, 26]) C dX6_init_48 (c_X1_init hl 1 (by simp [up1]) (by simp [up1]) (by simp [up1]) (by simp [up1]) (by simp [up1]) (by simp [up1]) (by simp [up1]) (by simp [up1]) (by simp [up1]) (zM_on _ 91 0).1) mX1_init vi_X1_init li_X6_18 rfl rfl ⟨by first | decide | (simp only [rmd]; omega), by first | decide | (simp only [rmd]; omega), by first | decide | (simp only [rmd]; omega), by first | decide | (simp only [rmd]; omega)⟩ (Nat.le_of_ble_eq_true rfl) rfl (fun _ _ _ _ h => ⟨h.1, h.2.1, h.2.2.1⟩) (fun ad48 cn48 M48 q48 => ?_)
  obtain ⟨-, a48, b48, rfl, f48, x1, x2, x3, x4, x5⟩ := q48
  have s9 : ∀ t, M9.1 96 0 t = 0 := fun t => by
    rw [(f9 96 0 (by omega)).1]
    simp [zM, hz]
  have l9 : ∀ t, M9.2.2.1 96 0 t = 0 := fun t => by
    rw [(f9 96 0 (by omega)).2.2.1]
    simp [zM, hzl]
  have s20 : ∀ t, M20.1 96 0 t = 0 := fun t => by
    rw [(f20 96 0 (by omega)).1]
    simp [uR, zM, s9]
  have l20 : ∀ t, M20.2.2.1 96 0 t = 0 := fun t => by
    rw [(f20 96 0 (by omega)).2.2.1]
    simp [uR, zM, l9]
  have r20 : M20.2.1 96 0 0 = some 0 := by
    rw [(f20 96 0 (by omega)).2.1]
    simp [uR, up3, zM]
  have s48 : ∀ t, M48.1 96 0 t = 0 := fun t => by
    rw [(f48 96 0 (by omega)).1]
    simp [uR, zM, s20]
  have l48 : ∀ t, M48.2.2.1 96 0 t = 0 := fun t => by
    rw [(f48 96 0 (by omega)).2.2.1]
    simp [uR, zM, l20]
  have r48 : M48.2.1 96 0 0 = some 0 ∧ M48.2.1 96 0 1 = some 0 ∧ M48.2.1 96 0 2 = some 0 ∧ M48.2.1 96 0 4 = some 0 := by
    rw [(f48 96 0 (by omega)).2.1]
    simp [uR, up3, zM, r20]
  have k20 : ∀ k, (k = 1 ∨ k = 20 ∨ k = 21) → M20.1 k 0 = M9.1 k 0 := fun k hk => by
    rw [(f20 k 0 (by omega)).1]
    rcases hk with rfl | rfl | rfl <;> rfl
  have k48 : ∀ k, (k = 1 ∨ k = 20 ∨ k = 21) → M48.1 k 0 = M9.1 k 0 := fun k hk => by
    rw [(f48 k 0 (by omega)).1, ← k20 k hk]
    rcases hk with rfl | rfl | rfl <;> rfl
  have m48 : ∀ k, (k = 2 ∨ k = 12 ∨ k = 22 ∨ k = 23 ∨ k = 24 ∨ k = 25 ∨ k = 26) → M48.1 k 0 = M20.1 k 0 ∧ M48.2.1 k 0 = M20.2.1 k 0 := fun k hk => by
    rw [(f48 k 0 (by omega)).1, (f48 k 0 (by omega)).2.1]
    rcases hk with rfl | rfl | rfl | rfl | rfl | rfl | rfl <;> exact ⟨rfl, rfl⟩
  have p48 : ∀ i, i < 40 → M48.1 3 i = M20.1 3 i ∧ M48.2.1 3 i = M20.2.1 3 i := fun i hi => by
    rw [(f48 3 i (by omega)).1, (f48 3 i (by omega)).2.1]
    exact ⟨rfl, rfl⟩
  have q48 : ∀ t, M48.2.1 10 0 t = none ∧ M48.2.1 11 0 t = none := fun t => by
    rw [(f48 10 0 (by omega)).2.1, (f48 11 0 (by omega)).2.1]
    simp [uR, up3, zM]
  refine rp_X6_35 C hnam dX6_init_51 (by first | assumption | (simp [inD, up1, cnC, h96, c0, c1, c2, c3, c10, c11, c12, c20, c21, c22, c23, c24, c25, c26, c27, c28, c29, c90, c91]; done) | (simp [inD, up1, cnC, h96, c0, c1, c2, c3, c10, c11, c12, c20, c21, c22, c23, c24, c25, c26, c27, c28, c29, c90, c91]; omega)) (by first | assumption | (simp [inD, up1, cnC, h96, c0, c1, c2, c3, c10, c11, c12, c20, c21, c22, c23, c24, c25, c26, c27, c28, c29, c90, c91]; done) | (simp [inD, up1, cnC, h96, c0, c1, c2, c3, c10, c11, c12, c20, c21, c22, c23, c24, c25, c26, c27, c28, c29, c90, c91]; omega)) ?_
  refine w_aload_n C dX6_init_54 rfl ?_
  refine w_bipush (v := 16) C dX6_init_55 rfl ?_
  refine w_newI (N := 16) (i := 0) C (by first | rfl | assumption | (simp [up1, h96, c0, c1, c2, c3, c10, c11, c12, c20, c21, c22, c23, c24, c25, c26, c27, c28, c29, c90, c91]; done)) dX6_init_57 mA_int IA_27 (by decide) rfl rfl (by decide) ⟨by first | decide | (show _ ≤ _; simp only [rmd]; omega), by first | decide | (show _ ≤ _; simp only [rmd]; omega)⟩ ?_
  intro ad57 hag57
  refine rp_X6_38 C hnam dX6_init_59 (by first | assumption | (simp [inD, up1, cnC, h96, c0, c1, c2, c3, c10, c11, c12, c20, c21, c22, c23, c24, c25, c26, c27, c28, c29, c90, c91]; done) | (simp [inD, up1, cnC, h96, c0, c1, c2, c3, c10, c11, c12, c20, c21, c22, c23, c24, c25, c26, c27, c28, c29, c90, c91]; omega)) (by first | assumption | (simp [inD, up1, cnC, h96, c0, c1, c2, c3, c10, c11, c12, c20, c21, c22, c23, c24, c25, c26, c27, c28, c29, c90, c91]; done) | (simp [inD, up1, cnC, h96, c0, c1, c2, c3, c10, c11, c12, c20, c21, c22, c23, c24, c25, c26, c27, c28, c29, c90, c91]; omega)) ?_
  refine w_aload_n C dX6_init_62 rfl ?_
  refine w_iconst C dX6_init_63 ?_
  refine w_newI (N := 4) (i := 0) C (by first | rfl | assumption | (simp [up1, h96, c0, c1, c2, c3, c10, c11, c12, c20, c21, c22, c23, c24, c25, c26, c27, c28, c29, c90, c91]; done)) dX6_init_64 mA_int IA_28 (by decide) rfl rfl (by decide) ⟨by first | decide | (show _ ≤ _; simp only [rmd]; omega), by first | decide | (show _ ≤ _; simp only [rmd]; omega)⟩ ?_
  intro ad64 hag64
  refine rp_X6_42 C hnam dX6_init_66 (by first | assumption | (simp [inD, up1, cnC, h96, c0, c1, c2, c3, c10, c11, c12, c20, c21, c22, c23, c24, c25, c26, c27, c28, c29, c90, c91]; done) | (simp [inD, up1, cnC, h96, c0, c1, c2, c3, c10, c11, c12, c20, c21, c22, c23, c24, c25, c26, c27, c28, c29, c90, c91]; omega)) (by first | assumption | (simp [inD, up1, cnC, h96, c0, c1, c2, c3, c10, c11, c12, c20, c21, c22, c23, c24, c25, c26, c27, c28, c29, c90, c91]; done) | (simp [inD, up1, cnC, h96, c0, c1, c2, c3, c10, c11, c12, c20, c21, c22, c23, c24, c25, c26, c27, c28, c29, c90, c91]; omega)) ?_
  refine w_aload_n C dX6_init_69 rfl ?_
  refine w_bipush (v := 16) C dX6_init_70 rfl ?_
  refine w_newI (N := 16) (i := 0) C (by first | rfl | assumption | (simp [up1, h96, c0, c1, c2, c3, c10, c11, c12, c20, c21, c22, c23, c24, c25, c26, c27, c28, c29, c90, c91]; done)) dX6_init_72 mA_int IA_29 (by decide) rfl rfl (by decide) ⟨by first | decide | (show _ ≤ _; simp only [rmd]; omega), by first | decide | (show _ ≤ _; simp only [rmd]; omega)⟩ ?_
  intro ad72 hag72
  refine rp_X6_45 C hnam dX6_init_74 (by first | assumption | (simp [inD, up1, cnC, h96, c0, c1, c2, c3, c10, c11, c12, c20, c21, c22, c23, c24, c25, c26, c27, c28, c29, c90, c91]; done) | (simp [inD, up1, cnC, h96, c0, c1, c2, c3, c10, c11, c12, c20, c21, c22, c23, c24, c25, c26, c27, c28, c29, c90, c91]; omega)) (by first | assumption | (simp [inD, up1, cnC, h96, c0, c1, c2, c3, c10, c11, c12, c20, c21, c22, c23, c24, c25, c26, c27, c28, c29, c90, c91]; done) | (simp [inD, up1, cnC, h96, c0, c1, c2, c3, c10, c11, c12, c20, c21, c22, c23, c24, c25, c26, c27, c28, c29, c90, c91]; omega)) ?_
  refine Wm.commit 96 0 0 (by simp [up1, c0]) (by decide) (by decide) (by simp [up1, h96]) (by simp [fT, inD, up1]) (fun _ => rfl) rfl rfl (fun ad' => by simp [cellG, uR, up3, zM, va_rf, r48.1, r48.2.1, r48.2.2.1, r48.2.2.2]) ?_
  intro ad8 h8 hag8
  refine w_vretN C hr dX6_init_77 (⟨rfl, ?_, fun k' i' h => ?_, ?_, ?_, fun t => ?_, fun t => ?_, fun t => ?_, fun t => ?_, fun x hx => ⟨fun t => ?_, fun t ht => ?_, fun t ht => ?_, fun k hk t => ?_⟩, fun i hi => ⟨fun t => ?_, fun t => ?_⟩, fun t => ?_, fun t => ?_⟩) (by first | decide | omega) (by first | decide | omega)
  · rw [h8, hag72 _ _ (by omega), hag64 _ _ (by omega), hag57 _ _ (by omega), b48 _ _ (by simp), hag44 _ _ (by omega), hag37 _ _ (by omega), hag29 _ _ (by omega), b20 _ _ (by simp), hag16 _ _ (by omega), b9 _ _ (by simp), hag5 _ _ (by omega)]
  · simp at h
    rw [hag8 _ _ (by omega), hag72 _ _ (by omega), hag64 _ _ (by omega), hag57 _ _ (by omega), b48 _ _ (by simp; omega), hag44 _ _ (by omega), hag37 _ _ (by omega), hag29 _ _ (by omega), b20 _ _ (by simp; omega), hag16 _ _ (by omega), b9 _ _ (by simp; omega), hag5 _ _ (by omega)]
  · funext k
    by_cases e0 : k = 0
    · subst e0
      simp [up1, c0]
    by_cases e1 : k = 1
    · subst e1
      simp [up1, c1]
    by_cases e2 : k = 2
    · subst e2
      simp [up1, c2]
    by_cases e3 : k = 3
    · subst e3
      simp [up1, c3]
    by_cases e10 : k = 10
    · subst e10
      simp [up1, c10]
    by_cases e11 : k = 11
    · subst e11
      simp [up1, c11]
    by_cases e12 : k = 12
    · subst e12
      simp [up1, c12]
    by_cases e20 : k = 20
    · subst e20
      simp [up1, c20]
    by_cases e21 : k = 21
    · subst e21
      simp [up1, c21]
    by_cases e22 : k = 22
    · subst e22
      simp [up1, c22]
    by_cases e23 : k = 23
    · subst e23
      simp [up1, c23]
    by_cases e24 : k = 24
    · subst e24
      simp [up1, c24]
    by_cases e25 : k = 25
    · subst e25
      simp [up1, c25]
    by_cases e26 : k = 26
    · subst e26
      simp [up1, c26]
    by_cases e27 : k = 27
    · subst e27
      simp [up1, c27]
    by_cases e28 : k = 28
    · subst e28
      simp [up1, c28]
    by_cases e29 : k = 29
    · subst e29
      simp [up1, c29]
    by_cases e90 : k = 90
    · subst e90
      simp [up1, c90]
    by_cases e91 : k = 91
    · subst e91
      simp [up1, c91]
    by_cases e96 : k = 96
    · subst e96
      simp [up1]
    simp [up1, e0, e1, e2, e3, e10, e11, e12, e20, e21, e22, e23, e24, e25, e26, e27, e28, e29, e90, e91, e96]
  · have K : ∀ k : Nat, k ∈ [0, 1, 2, 3, 10, 11, 12, 20, 21, 22, 23, 24, 25, 26, 27, 28, 29, 90, 91, 96] ↔ (k = 0 ∨ k = 1 ∨ k = 2 ∨ k = 3 ∨ k = 10 ∨ k = 11 ∨ k = 12 ∨ k = 20 ∨ k = 21 ∨ k = 22 ∨ k = 23 ∨ k = 24 ∨ k = 25 ∨ k = 26 ∨ k = 27 ∨ k = 28 ∨ k = 29 ∨ k = 90 ∨ k = 91 ∨ k = 96) := fun k => by simp
    have g9 := (Fr.rf (M := M) (K := fun k i => k ∈ [0, 1, 2, 3, 10, 11, 12, 20, 21, 22, 23, 24, 25, 26, 27, 28, 29, 90, 91, 96])).zM (k := 90) (i := 0) (by simp)
    have g20 := (((g9.tr (f9.mono (fun k i h => by rw [K]; omega))).uR (k := 96) (i := 0) (s := 0) (v := some 0) (by simp)).zM (k := 91) (i := 0) (by simp)).tr (f20.mono (fun k i h => by rw [K]; omega))
    have g48 := ((((((g20.uR (k := 96) (i := 0) (s := 1) (v := some 0) (by simp)).zM (k := 10) (i := 0) (by simp)).uR (k := 96) (i := 0) (s := 2) (v := some 0) (by simp)).zM (k := 11) (i := 0) (by simp)).uR (k := 96) (i := 0) (s := 4) (v := some 0) (by simp)).zM (k := 91) (i := 0) (by simp)).tr (f48.mono (fun k i h => by rw [K]; omega))
    exact (((((((g48.uR (by simp)).zM (by simp)).uR (by simp)).zM (by simp)).uR (by simp)).zM (by simp)).uR (by simp)).cpM (by simp)
  · simp [cpM, uR, zM, s48]
  · simp [cpM, uR, zM]
    rw [k48 1 (by omega), u1]
  · simp [cpM, uR, zM]
    rw [k48 20 (by omega), u2]
  · simp [cpM, uR, zM]
    rw [k48 21 (by omega), u3]
  · simp [cpM, uR, zM]
    rcases (show x = 0 ∨ x = 1 by omega) with rfl | rfl
    · rw [(m48 2 (by omega)).1, w1 t]
    · exact x1 t
  · simp [cpM, uR, up3, zM]
    rcases (show x = 0 ∨ x = 1 by omega) with rfl | rfl
    · rw [(m48 12 (by omega)).2, w2 t ht]
    · exact x2 t ht
  · simp [cpM, uR, zM]
    rcases (show x = 0 ∨ x = 1 by omega) with rfl | rfl
    · rw [(m48 22 (by omega)).1, w4 t ht]
    · exact x4 t ht
  · have e : ∀ k, (k = 23 ∨ k = 24 ∨ k = 25 ∨ k = 26) → M48.1 k x t = 0 := fun k hk => by
      rcases (show x = 0 ∨ x = 1 by omega) with rfl | rfl
      · rw [(m48 k (by omega)).1, w5 k hk t]
      · exact x5 k hk t
    have e := e k hk
    rcases hk with rfl | rfl | rfl | rfl <;> (simp [cpM, uR, zM]; exact e)
  · simp [cpM, uR, zM]
    by_cases h4 : i < 40
    · rw [(p48 i h4).1]
      exact (w3 i (by omega) (by omega)).1 t
    · exact (x3 i (by omega) (by omega)).1 t
  · simp [cpM, uR, up3, zM]
    by_cases h4 : i < 40
    · rw [(p48 i h4).2]
      exact (w3 i (by omega) (by omega)).2 t
    · exact (x3 i (by omega) (by omega)).2 t
  · simp [cpM, uR, up3, zM, q48 t]
  · simp [cpM, uR, zM]
