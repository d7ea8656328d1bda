/-! the constructors -/
/-- nothing is new: a constructor that makes nothing and writes nothing -/
theorem c_X3_init {l : Launch} (hl : l.stackTraces = false) {b0 : Nat → Prop} {ad : Ads} {cn : Nat → Nat} {M : Mem} (i : Nat) : ConN l b0 yX3_init cX3_init 1 none 1 0 0 [aO 3 i] ad cn M (fun r ad' cn' M' => r = none ∧ ad' 3 i = ad 3 i ∧ (∀ k' i', k' ∉ ([] : List Nat) → ad' k' i' = ad k' i') ∧ cn' = cn ∧ M' = M) (fun _ _ => False) := by
  refine ConN.of hl pl_X3 (Nat.le_of_ble_eq_true rfl) ?_
  intro D cA p e s m args below meth c C hr hnam
  have hnam : meth.name = "<init>" := hnam
  refine w_aload_n C dX3_init_0 rfl ?_
  refine w_objInit C dX3_init_1 lo_X3_1 mObjI mObjC ⟨by decide, by decide⟩ (Nat.le_of_ble_eq_true rfl) ?_
  refine w_vretN C hr dX3_init_4 (⟨rfl, rfl, fun _ _ _ => rfl, rfl, rfl⟩) (by first | decide | omega) (by first | decide | omega)
theorem c_X5_init {l : Launch} (hl : l.stackTraces = false) {b0 : Nat → Prop} {ad : Ads} {cn : Nat → Nat} {M : Mem} (j : Nat) (h95 : cn 95 = 1) (h32 : cn 32 = j) (h6 : cn 6 = j) (hz : M.1 95 0 = fun _ => 0) : ConN l b0 yX5_init cX5_init 1 none 1 1 8 [aO 95 0] ad cn M (fun r ad' cn' M' => r = none ∧ ad' 6 j = ad 95 0 ∧ (∀ k' i', k' ∉ [6, 32] → ad' k' i' = ad k' i') ∧ cn' = (fun k => if k = 6 ∨ k = 32 then j + 1 else if k = 95 then 0 else cn k) ∧ Fr (fun k i => (k = 32 ∧ i = j) ∨ (k = 6 ∧ i = j) ∨ k = 95) M M' ∧ M'.1 6 j = (fun _ => 0) ∧ M'.1 32 j = (fun _ => 0)) (fun _ _ => False) := by
  refine ConN.of hl pl_X5 (Nat.le_of_ble_eq_true rfl) ?_
  intro D cA p e s m args below meth c C hr hnam
  have hnam : meth.name = "<init>" := hnam
  refine w_aload_n C dX5_init_0 rfl ?_
  refine w_objInit C dX5_init_1 lo_X5_3 mObjI mObjC ⟨by decide, by decide⟩ (Nat.le_of_ble_eq_true rfl) ?_
  refine w_aload_n C dX5_init_4 rfl ?_
  refine w_bipush (v := 8) C dX5_init_5 rfl ?_
  refine w_newI (N := 8) (i := (j)) C (by first | rfl | assumption | (simp [up1, h95, h32, h6]; done)) dX5_init_7 mA_int IA_32 (by decide) rfl rfl (by decide) ⟨by first | decide | (show _ ≤ _; simp only [rmd]; omega), by first | decide | (show _ ≤ _; simp only [rmd]; omega)⟩ ?_
  intro ad7 hag7
  refine rp_X5_9 C hnam dX5_init_9 (by first | assumption | (simp [inD, up1, cnC, h95, h32, h6]; done) | (simp [inD, up1, cnC, h95, h32, h6]; omega)) (by first | assumption | (simp [inD, up1, cnC, h95, h32, h6]; done) | (simp [inD, up1, cnC, h95, h32, h6]; omega)) ?_
  refine Wm.commit 95 6 j (by simp [up1, h6]) (by decide) (by decide) (by simp [up1, h95]) (by simp [fT, inD, up1, h6, h32]) (fun _ => rfl) rfl rfl (fun ad' => by simp [cellG, uR, up3, zM, up1, h6, h32, va_rf]) ?_
  intro ad8 h8 hag8
  refine w_vretN C hr dX5_init_12 (⟨rfl, by rw [h8, hag7 _ _ (by omega)], fun k' i' h => ?_, ?_, ?_, ?_, ?_⟩) (by first | decide | omega) (by first | decide | omega)
  · simp at h
    rw [hag8 _ _ (by omega), hag7 _ _ (by omega)]
  · funext k
    simp only [up1, h6, h32]
    (repeat' split) <;> omega
  · intro k i h
    refine ⟨?_, ?_, ?_, ?_⟩ <;> funext x <;> simp only [cpM, zM, uR, up3] <;> (repeat' split) <;> first | rfl | (exfalso; omega)
  · funext x
    simp [cpM, uR, zM, hz]
  · funext x
    simp [cpM, uR, zM, h32]
theorem c_X0_init {l : Launch} (hl : l.stackTraces = false) {b0 : Nat → Prop} {ad : Ads} {cn : Nat → Nat} {M : Mem} (h90 : cn 90 = 1) (h20 : cn 20 = 0) (h21 : cn 21 = 0) (h1 : cn 1 = 0) (hz : M.1 90 0 = fun _ => 0) : ConN l b0 yX0_init cX0_init 1 none 1 2 120 [aO 90 0] ad cn M (fun r ad' cn' M' => r = none ∧ ad' 1 0 = ad 90 0 ∧ (∀ k' i', k' ∉ [1, 20, 21] → ad' k' i' = ad k' i') ∧ cn' = (fun k => if k = 1 ∨ k = 20 ∨ k = 21 then 1 else if k = 90 then 0 else cn k) ∧ Fr (fun k i => k = 1 ∨ k = 20 ∨ k = 21 ∨ k = 90) M M' ∧ M'.1 1 0 = (fun s => if s = 0 then 12 else 0) ∧ M'.1 20 0 = (fun _ => 0) ∧ M'.1 21 0 = (fun _ => 0)) (fun _ _ => False) := by
  refine ConN.of hl pl_X0 (Nat.le_of_ble_eq_true rfl) ?_
  intro D cA p e s m args below meth c C hr hnam
  have hnam : meth.name = "<init>" := hnam
  refine w_aload_n C dX0_init_0 rfl ?_
  refine w_objInit C dX0_init_1 lo_X0_3 mObjI mObjC ⟨by decide, by decide⟩ (Nat.le_of_ble_eq_true rfl) ?_
  refine w_aload_n C dX0_init_4 rfl ?_
  refine w_bipush (v := 12) C dX0_init_5 rfl ?_
  refine rp_X0_9 C dX0_init_7 (by first | assumption | (simp [inD, up1, cnC, h90, h20, h21, h1]; done) | (simp [inD, up1, cnC, h90, h20, h21, h1]; omega)) ?_
  refine w_aload_n C dX0_init_10 rfl ?_
  refine w_bipush (v := 60) C dX0_init_11 rfl ?_
  refine w_newI (N := 60) (i := 0) C (by first | rfl | assumption | (simp [up1, h90, h20, h21, h1]; done)) dX0_init_13 mA_int IA_20 (by decide) rfl rfl (by decide) ⟨by first | decide | (show _ ≤ _; simp only [rmd]; omega), by first | decide | (show _ ≤ _; simp only [rmd]; omega)⟩ ?_
  intro ad13 hag13
  refine rp_X0_15 C hnam dX0_init_15 (by first | assumption | (simp [inD, up1, cnC, h90, h20, h21, h1]; done) | (simp [inD, up1, cnC, h90, h20, h21, h1]; omega)) (by first | assumption | (simp [inD, up1, cnC, h90, h20, h21, h1]; done) | (simp [inD, up1, cnC, h90, h20, h21, h1]; omega)) ?_
  refine w_aload_n C dX0_init_18 rfl ?_
  refine w_bipush (v := 60) C dX0_init_19 rfl ?_
  refine w_newI (N := 60) (i := 0) C (by first | rfl | assumption | (simp [up1, h90, h20, h21, h1]; done)) dX0_init_21 mA_int IA_21 (by decide) rfl rfl (by decide) ⟨by first | decide | (show _ ≤ _; simp only [rmd]; omega), by first | decide | (show _ ≤ _; simp only [rmd]; omega)⟩ ?_
  intro ad21 hag21
  refine rp_X0_19 C hnam dX0_init_23 (by first | assumption | (simp [inD, up1, cnC, h90, h20, h21, h1]; done) | (simp [inD, up1, cnC, h90, h20, h21, h1]; omega)) (by first | assumption | (simp [inD, up1, cnC, h90, h20, h21, h1]; done) | (simp [inD, up1, cnC, h90, h20, h21, h1]; omega)) ?_
  refine Wm.commit 90 1 0 (by simp [up1, h1]) (by decide) (by decide) (by simp [up1, h90]) (by simp [fT, inD, up1, h20, h21]) (fun _ => rfl) rfl rfl (fun ad' => by simp [cellG, uR, uI, up3, zM, up1, h20, h21, va_rf]) ?_
  intro ad8 h8 hag8
  refine w_vretN C hr dX0_init_26 (⟨rfl, by rw [h8, hag21 _ _ (by omega), hag13 _ _ (by omega)], fun k' i' h => ?_, ?_, ?_, ?_, ?_, ?_⟩) (by first | decide | omega) (by first | decide | omega)
  · simp at h
    rw [hag8 _ _ (by omega), hag21 _ _ (by omega), hag13 _ _ (by omega)]
  · funext k
    simp only [up1, h20, h21, h1]
    (repeat' split) <;> omega
  · intro k i h
    refine ⟨?_, ?_, ?_, ?_⟩ <;> funext x <;> simp only [cpM, zM, uR, uI, up3] <;> (repeat' split) <;> first | rfl | (exfalso; omega)
  · funext x
    simp [cpM, uR, uI, up3, zM, hz]
  · funext x
    simp [cpM, uR, uI, zM, h20]
  · funext x
    simp [cpM, uR, uI, zM, h20]
theorem c_X2_init {l : Launch} (hl : l.stackTraces = false) {b0 : Nat → Prop} {ad : Ads} {cn : Nat → Nat} {M : Mem} (j : Nat) (t x : Int) (hx : x = 0 ∨ x = 1) (h92 : cn 92 = 1) (h31 : cn 31 = j) (h5 : cn 5 = j) (hz : M.1 92 0 = fun _ => 0) : ConN l b0 yX2_init cX2_init 3 none 1 1 5 [aO 92 0, aI t, aI x] ad cn M (fun r ad' cn' M' => r = none ∧ ad' 5 j = ad 92 0 ∧ (∀ k' i', k' ∉ [5, 31] → ad' k' i' = ad k' i') ∧ cn' = (fun k => if k = 5 ∨ k = 31 then j + 1 else if k = 92 then 0 else cn k) ∧ Fr (fun k i => (k = 31 ∧ i = j) ∨ (k = 5 ∧ i = j) ∨ k = 92) M M' ∧ M'.1 5 j = (fun s => if s = 1 then x else if s = 0 then t else 0) ∧ M'.1 31 j = (fun _ => 0)) (fun _ _ => False) := by
  refine ConN.of hl pl_X2 (Nat.le_of_ble_eq_true rfl) ?_
  intro D cA p e s m args below meth c C hr hnam
  have hnam : meth.name = "<init>" := hnam
  refine w_aload_n C dX2_init_0 rfl ?_
  refine w_objInit C dX2_init_1 lo_X2_3 mObjI mObjC ⟨by decide, by decide⟩ (Nat.le_of_ble_eq_true rfl) ?_
  refine w_aload_n C dX2_init_4 rfl ?_
  refine w_iload_n C dX2_init_5 rfl ?_
  refine rp_X2_9 C hnam dX2_init_6 (by first | assumption | (simp [inD, up1, cnC, h92, h31, h5]; done) | (simp [inD, up1, cnC, h92, h31, h5]; omega)) ?_
  refine w_aload_n C dX2_init_9 rfl ?_
  refine w_iload_n C dX2_init_10 rfl ?_
  refine rp_X2_15 C hnam dX2_init_11 (by first | assumption | (simp [inD, up1, cnC, h92, h31, h5]; done) | (simp [inD, up1, cnC, h92, h31, h5]; omega)) (by omega) ?_
  refine w_aload_n C dX2_init_14 rfl ?_
  refine w_iconst C dX2_init_15 ?_
  refine w_newI (N := 5) (i := (j)) C (by first | rfl | assumption | (simp [up1, h92, h31, h5]; done)) dX2_init_16 mA_int IA_31 (by decide) rfl rfl (by decide) ⟨by first | decide | (show _ ≤ _; simp only [rmd]; omega), by first | decide | (show _ ≤ _; simp only [rmd]; omega)⟩ ?_
  intro ad16 hag16
  refine rp_X2_19 C hnam dX2_init_18 (by first | assumption | (simp [inD, up1, cnC, h92, h31, h5]; done) | (simp [inD, up1, cnC, h92, h31, h5]; omega)) (by first | assumption | (simp [inD, up1, cnC, h92, h31, h5]; done) | (simp [inD, up1, cnC, h92, h31, h5]; omega)) ?_
  refine Wm.commit 92 5 j (by simp [up1, h5]) (by decide) (by decide) (by simp [up1, h92]) (by simp [fT, inD, up1, h31, h5]) (fun _ => rfl) rfl rfl (fun ad' => by simp [cellG, uR, uI, up3, zM, up1, h31, h5, va_rf]) ?_
  intro ad8 h8 hag8
  refine w_vretN C hr dX2_init_21 (⟨rfl, by rw [h8, hag16 _ _ (by omega)], fun k' i' h => ?_, ?_, ?_, ?_, ?_⟩) (by first | decide | omega) (by first | decide | omega)
  · simp at h
    rw [hag8 _ _ (by omega), hag16 _ _ (by omega)]
  · funext k
    simp only [up1, h31, h5]
    (repeat' split) <;> omega
  · intro k i h
    refine ⟨?_, ?_, ?_, ?_⟩ <;> funext x <;> simp only [cpM, zM, uR, uI, up3] <;> (repeat' split) <;> first | rfl | (exfalso; omega)
  · funext y
    simp [cpM, uR, uI, up3, zM, hz]
  · funext y
    simp [cpM, uR, uI, zM, h31]
