/-! the constructor of a shape -/
def OuA (j q : Nat) (F : Nat → Int) (M M1 : Mem) : Prop := Fr (fun k i => (k = 13 ∧ i = j) ∨ (k = 30 ∧ i = j) ∨ (k = 5 ∧ 8 * j ≤ i) ∨ (k = 31 ∧ 8 * j ≤ i) ∨ k = 92 ∨ k = 94) M M1 ∧ M1.1 94 0 = F ∧ M1.2.2.1 94 0 = (fun _ => 0) ∧ (M1.2.1 94 0 2 = some j ∧ M1.2.1 94 0 3 = some j) ∧ (∀ t, M1.1 30 j t = 0) ∧ (∀ t, M1.2.1 13 j t = if t < q then some (8 * j + t) else none) ∧
  ∀ t, t < q → (∀ y, M1.1 5 (8 * j + t) y = if y = 1 then ((t / 4 : Nat) : Int) else if y = 0 then ((t % 4 : Nat) : Int) else 0) ∧ ∀ y, M1.1 31 (8 * j + t) y = 0
theorem OuA.step {j q : Nat} {F : Nat → Int} {M M1 M2 : Mem} (h : OuA j q F M M1) (hf : Fr (fun k i => (k = 31 ∧ i = 8 * j + q) ∨ (k = 5 ∧ i = 8 * j + q) ∨ k = 92) (zM M1 92 0) M2) (h5 : M2.1 5 (8 * j + q) = fun s => if s = 1 then ((q / 4 : Nat) : Int) else if s = 0 then ((q % 4 : Nat) : Int) else 0) (h31 : M2.1 31 (8 * j + q) = fun _ => 0) : OuA j (q + 1) F M (uR M2 13 j q (some (8 * j + q))) := by
  obtain ⟨g1, g2, g3, ⟨g4, g5⟩, g6, g7, g8⟩ := h
  have z : ∀ k i, k ≠ 92 → ¬ ((k = 31 ∧ i = 8 * j + q) ∨ (k = 5 ∧ i = 8 * j + q) ∨ k = 92) → M2.1 k i = M1.1 k i ∧ M2.2.1 k i = M1.2.1 k i ∧ M2.2.2.1 k i = M1.2.2.1 k i := by
    intro k i h1 h2
    obtain ⟨a1, a2, a3, -⟩ := hf k i h2
    obtain ⟨b1, b2, b3, -⟩ := zM_off M1 (k := 92) (i := 0) (k' := k) (i' := i) (by omega)
    exact ⟨a1.trans b1, a2.trans b2, a3.trans b3⟩
  refine ⟨?_, ?_, ?_, ⟨?_, ?_⟩, fun t => ?_, fun t => ?_, fun t ht => ?_⟩
  · exact (((g1.zM (by omega)).tr (hf.mono (fun k i h => by omega))).uR (by omega))
  · exact (z 94 0 (by omega) (by omega)).1.trans g2
  · exact (z 94 0 (by omega) (by omega)).2.2.trans g3
  · rw [uR_get, if_neg (by omega), (z 94 0 (by omega) (by omega)).2.1, g4]
  · rw [uR_get, if_neg (by omega), (z 94 0 (by omega) (by omega)).2.1, g5]
  · exact (congrFun (z 30 j (by omega) (by omega)).1 t).trans (g6 t)
  · rw [uR_get, (z 13 j (by omega) (by omega)).2.1, g7 t]
    (repeat' split) <;> first | rfl | (exfalso; omega) | (congr 1; omega)
  · by_cases e : t = q
    · subst e
      exact ⟨fun y => congrFun h5 y, fun y => congrFun h31 y⟩
    · obtain ⟨p1, p2⟩ := g8 t (by omega)
      exact ⟨fun y => (congrFun (z 5 (8 * j + t) (by omega) (by omega)).1 y).trans (p1 y), fun y => (congrFun (z 31 (8 * j + t) (by omega) (by omega)).1 y).trans (p2 y)⟩
theorem c_X4_init {l : Launch} (hl : l.stackTraces = false) {b0 : Nat → Prop} {ad : Ads} {cn : Nat → Nat} {M : Mem} (j : Nat) (u v : Int) (hu : 0 ≤ u ∧ u ≤ 65535) (hv : v = 0 ∨ v = 1) (h94 : cn 94 = 1) (h92 : cn 92 = 0) (h4 : cn 4 = j) (h30 : cn 30 = j) (h13 : cn 13 = j) (h5 : cn 5 = 8 * j) (h31 : cn 31 = 8 * j) (hz : M.1 94 0 = fun _ => 0) (hzl : M.2.2.1 94 0 = fun _ => 0) : ConN l b0 yX4_init cX4_init 4 none 2 18 101 [aO 94 0, aI u, aI v] ad cn M (fun r ad' cn' M' => r = none ∧ ad' 4 j = ad 94 0 ∧ (∀ k' i', k' ∉ [4, 5, 13, 30, 31, 92] → ad' k' i' = ad k' i') ∧ cn' = (fun k => if k = 4 ∨ k = 13 ∨ k = 30 then j + 1 else if k = 5 ∨ k = 31 then 8 * j + 8 else if k = 94 then 0 else cn k) ∧ Fr (fun k i => (i = j ∧ (k = 4 ∨ k = 13 ∨ k = 30)) ∨ ((k = 5 ∨ k = 31) ∧ 8 * j ≤ i) ∨ k = 92 ∨ k = 94) M M' ∧ (∀ t, M'.1 4 j t = if t = 0 then u else if t = 1 then v else if t = 5 then -1 else 0) ∧ (∀ t, M'.2.2.1 4 j t = 0) ∧ (∀ t, M'.1 30 j t = 0) ∧ (∀ t, t < 8 → M'.2.1 13 j t = some (8 * j + t) ∧ (∀ y, M'.1 5 (8 * j + t) y = if y = 1 then ((t / 4 : Nat) : Int) else if y = 0 then ((t % 4 : Nat) : Int) else 0) ∧ ∀ y, M'.1 31 (8 * j + t) y = 0)) (fun _ _ => False) := by
  refine ConN.of hl pl_X4 (Nat.le_of_ble_eq_true rfl) ?_
  intro D cA p e s m args below meth c C hr hnam
  have hnam : meth.name = "<init>" := hnam
  have loop : ∀ (d q : Nat) (ad1 : Ads) (M1 : Mem), q + d = 8 → (∀ k' i', k' ∉ [5, 13, 30, 31, 92] → ad1 k' i' = ad k' i') → OuA j q (fun t => if t = 0 then u else if t = 1 then v else if t = 5 then -1 else 0) M M1 → Wm p l e (rmd 2 18 101) s m args below meth c 4 D cA b0 (2 + 2 * q) (13 + 11 * q) (vx_MQ below (mQN D cA b0 (fun r ad' cn' M' => r = none ∧ ad' 4 j = ad 94 0 ∧ (∀ k' i', k' ∉ [4, 5, 13, 30, 31, 92] → ad' k' i' = ad k' i') ∧ cn' = (fun k => if k = 4 ∨ k = 13 ∨ k = 30 then j + 1 else if k = 5 ∨ k = 31 then 8 * j + 8 else if k = 94 then 0 else cn k) ∧ Fr (fun k i => (i = j ∧ (k = 4 ∨ k = 13 ∨ k = 30)) ∨ ((k = 5 ∨ k = 31) ∧ 8 * j ≤ i) ∨ k = 92 ∨ k = 94) M M' ∧ (∀ t, M'.1 4 j t = if t = 0 then u else if t = 1 then v else if t = 5 then -1 else 0) ∧ (∀ t, M'.2.2.1 4 j t = 0) ∧ (∀ t, M'.1 30 j t = 0) ∧ (∀ t, t < 8 → M'.2.1 13 j t = some (8 * j + t) ∧ (∀ y, M'.1 5 (8 * j + t) y = if y = 1 then ((t / 4 : Nat) : Int) else if y = 0 then ((t % 4 : Nat) : Int) else 0) ∧ ∀ y, M'.1 31 (8 * j + t) y = 0))) (mX D cA b0 ad cn (fun _ _ => False)) args s 18 101 b0) 37 [(0, aO 94 0), (3, aI q)] [] ad1 (fun k => if k = 13 ∨ k = 30 then j + 1 else if k = 5 ∨ k = 31 then 8 * j + q else if k = 92 then 0 else cn k) M1 := by
    intro d
    induction d with
    | zero =>
      intro q ad1 M1 hq hag hP
      obtain rfl : q = 8 := by omega
      obtain ⟨g1, g2, g3, ⟨g4, g5⟩, g6, g7, g8⟩ := hP
      refine w_iload_n C dX4_init_37 rfl ?_
      refine w_aload_n C dX4_init_38 rfl ?_
      refine rg_X4_29 C dX4_init_39 (by first | assumption | (simp [inD, up1, cnC, h94, h92, h4, h30, h13, h5, h31]; done) | (simp [inD, up1, cnC, h94, h92, h4, h30, h13, h5, h31]; omega)) ?_
      refine Wm.top (show _ = aO 13 j by rw [g5]; rfl) ?_
      refine w_alen C dX4_init_42 (by simp [inD]) (Or.inr (Or.inr (Or.inr ⟨8, 5, by decide, RA_13⟩))) ?_
      refine w_icmp_ge C dX4_init_43 (by omega) (by omega) (fun h43 => ?_) (fun h43 => ?_)
      · refine Wm.commit 94 4 j (by simp [h4]) (by decide) (by decide) (by simp [h94]) (by simp [fT, inD]) (fun _ => rfl) rfl rfl (fun ad' => by simp [cellG, g4, g5, va_rf]) ?_
        intro ad8 h8 hag8
        refine w_vretN C hr dX4_init_78 (⟨rfl, by rw [h8, hag _ _ (by simp)], fun k' i' h => ?_, ?_, ?_, fun t => ?_, fun t => ?_, fun t => ?_, fun t ht => ⟨?_, fun y => ?_, fun y => ?_⟩⟩) (by first | decide | omega) (by first | decide | omega)
        · simp at h
          rw [hag8 _ _ (by omega), hag _ _ (by simp; omega)]
        · funext k
          by_cases e92 : k = 92
          · subst e92
            simp [up1, h92]
          · simp only [up1]
            (repeat' split) <;> omega
        · exact (g1.mono (fun k i h => by omega)).cpM (by omega)
        · simp [cpM, g2]
        · simp [cpM, g3]
        · simp [cpM]
          exact g6 t
        · simp [cpM]
          rw [g7 t, if_pos ht]
        · simp [cpM]
          exact (g8 t ht).1 y
        · simp [cpM]
          exact (g8 t ht).2 y
      · omega
    | succ d ih =>
      intro q ad1 M1 hq hag hP
      have g4 := hP.2.2.2.1.1
      have g5 := hP.2.2.2.1.2
      refine w_iload_n C dX4_init_37 rfl ?_
      refine w_aload_n C dX4_init_38 rfl ?_
      refine rg_X4_29 C dX4_init_39 (by first | assumption | (simp [inD, up1, cnC, h94, h92, h4, h30, h13, h5, h31]; done) | (simp [inD, up1, cnC, h94, h92, h4, h30, h13, h5, h31]; omega)) ?_
      refine Wm.top (show _ = aO 13 j by rw [g5]; rfl) ?_
      refine w_alen C dX4_init_42 (by simp [inD]) (Or.inr (Or.inr (Or.inr ⟨8, 5, by decide, RA_13⟩))) ?_
      refine w_icmp_ge C dX4_init_43 (by omega) (by omega) (fun h43 => ?_) (fun h43 => ?_)
      · omega
      · refine w_aload_n C dX4_init_46 rfl ?_
        refine rg_X4_29 C dX4_init_47 (by first | assumption | (simp [inD, up1, cnC, h94, h92, h4, h30, h13, h5, h31]; done) | (simp [inD, up1, cnC, h94, h92, h4, h30, h13, h5, h31]; omega)) ?_
        refine Wm.top (show _ = aO 13 j by rw [g5]; rfl) ?_
        refine w_iload_n C dX4_init_50 rfl ?_
        refine w_new_X2 (i := (0)) C (by first | rfl | assumption | (simp [up1, h94, h92, h4, h30, h13, h5, h31]; done)) dX4_init_51 lc_X4_27 rfl ⟨by first | decide | (show _ ≤ _; simp only [rmd]; omega), by first | decide | (show _ ≤ _; simp only [rmd]; omega)⟩ ?_
        intro ad51 hag51
        refine w_dup C dX4_init_54 rfl ?_
        refine w_iload_n C dX4_init_55 rfl ?_
        refine w_iconst C dX4_init_56 ?_
        refine w_irem C dX4_init_57 (by omega) (by omega) ?_
        have tail : ∀ b : Int, b = ((q / 4 : Nat) : Int) → Wm p l e (rmd 2 18 101) s m args below meth c 4 D cA b0 (2 + 2 * q + 1) (13 + 11 * q + 6) (vx_MQ below (mQN D cA b0 (fun r ad' cn' M' => r = none ∧ ad' 4 j = ad 94 0 ∧ (∀ k' i', k' ∉ [4, 5, 13, 30, 31, 92] → ad' k' i' = ad k' i') ∧ cn' = (fun k => if k = 4 ∨ k = 13 ∨ k = 30 then j + 1 else if k = 5 ∨ k = 31 then 8 * j + 8 else if k = 94 then 0 else cn k) ∧ Fr (fun k i => (i = j ∧ (k = 4 ∨ k = 13 ∨ k = 30)) ∨ ((k = 5 ∨ k = 31) ∧ 8 * j ≤ i) ∨ k = 92 ∨ k = 94) M M' ∧ (∀ t, M'.1 4 j t = if t = 0 then u else if t = 1 then v else if t = 5 then -1 else 0) ∧ (∀ t, M'.2.2.1 4 j t = 0) ∧ (∀ t, M'.1 30 j t = 0) ∧ (∀ t, t < 8 → M'.2.1 13 j t = some (8 * j + t) ∧ (∀ y, M'.1 5 (8 * j + t) y = if y = 1 then ((t / 4 : Nat) : Int) else if y = 0 then ((t % 4 : Nat) : Int) else 0) ∧ ∀ y, M'.1 31 (8 * j + t) y = 0))) (mX D cA b0 ad cn (fun _ _ => False)) args s 18 101 b0) 68 [(0, aO 94 0), (3, aI q)] [aI b, aI ((q : Int) % 4), aO 92 0, aO 92 0, aI q, aO 13 j] ad51 (up1 (fun k => if k = 13 ∨ k = 30 then j + 1 else if k = 5 ∨ k = 31 then 8 * j + q else if k = 92 then 0 else cn k) 92 1) (zM M1 92 0) := by
          intro b hb
          refine w_ctor (ks := [5, 31]) C dX4_init_68 (c_X2_init hl (8 * j + q) ((q : Int) % 4) b (by omega) (by simp [up1]) (by simp [up1]) (by simp [up1]) (zM_on M1 92 0).1) mX2_init vi_X2_init li_X4_33 rfl rfl ⟨by first | decide | (simp only [rmd]; omega), by first | decide | (simp only [rmd]; omega), by first | decide | (simp only [rmd]; omega), by first | decide | (simp only [rmd]; omega)⟩ (Nat.le_of_ble_eq_true rfl) rfl (fun _ _ _ _ h => ⟨h.1, h.2.1, h.2.2.1⟩) (fun ad68 cn68 M68 q68 => ?_)
          obtain ⟨-, g68, hag68, rfl, f1, f2, f3⟩ := q68
          refine w_aast (ci := 2) C dX4_init_71 (by simp [inD, up1]) RA_13 rfl rfl (fun _ => rfl) (by simp [inD, up1]) rfl (by omega) ?_
          refine w_iinc C dX4_init_72 rfl (by decide) ?_
          refine w_goto C dX4_init_75 ?_
          refine Wm.widen (c2 := 2 + 2 * (q + 1)) (s2 := 13 + 11 * (q + 1)) (by omega) (by omega) ?_
          refine Wm.eqC (cn' := fun k => if k = 13 ∨ k = 30 then j + 1 else if k = 5 ∨ k = 31 then 8 * j + (q + 1) else if k = 92 then 0 else cn k) (by funext k; simp only [up1]; (repeat' split) <;> omega) ?_
          refine Wm.lsub (lv' := [(0, aO 94 0), (3, aI ((q + 1 : Nat) : Int))]) ⟨rfl, rfl, trivial⟩ (ih (q + 1) _ _ (by omega) (fun k' i' h => ?_) (hP.step f1 (by rw [f2, hb]; funext t; simp only [Int.natCast_emod]; rfl) f3))
          simp at h
          rw [hag68 k' i' (by simp; omega), hag51 k' i' (by omega), hag k' i' (by simp; omega)]
        refine w_iload_n C dX4_init_58 rfl ?_
        refine w_iconst C dX4_init_59 ?_
        refine w_icmp_lt C dX4_init_60 (by omega) (by omega) (fun h60 => ?_) (fun h60 => ?_)
        · refine w_iconst C dX4_init_67 ?_
          exact tail 0 (by omega)
        · refine w_iconst C dX4_init_63 ?_
          refine w_goto C dX4_init_64 ?_
          exact tail 1 (by omega)
  refine w_aload_n C dX4_init_0 rfl ?_
  refine w_objInit C dX4_init_1 lo_X4_3 mObjI mObjC ⟨by decide, by decide⟩ (Nat.le_of_ble_eq_true rfl) ?_
  refine w_aload_n C dX4_init_4 rfl ?_
  refine w_iload_n C dX4_init_5 rfl ?_
  refine rp_X4_9 C hnam dX4_init_6 (by first | assumption | (simp [inD, up1, cnC, h94, h92, h4, h30, h13, h5, h31]; done) | (simp [inD, up1, cnC, h94, h92, h4, h30, h13, h5, h31]; omega)) (by omega) ?_
  refine w_aload_n C dX4_init_9 rfl ?_
  refine w_iload_n C dX4_init_10 rfl ?_
  refine rp_X4_15 C hnam dX4_init_11 (by first | assumption | (simp [inD, up1, cnC, h94, h92, h4, h30, h13, h5, h31]; done) | (simp [inD, up1, cnC, h94, h92, h4, h30, h13, h5, h31]; omega)) (by omega) ?_
  refine w_aload_n C dX4_init_14 rfl ?_
  refine w_iconst C dX4_init_15 ?_
  refine w_newI (N := 5) (i := (j)) C (by first | rfl | assumption | (simp [up1, h94, h92, h4, h30, h13, h5, h31]; done)) dX4_init_16 mA_int IA_30 (by decide) rfl rfl (by decide) ⟨by first | decide | (show _ ≤ _; simp only [rmd]; omega), by first | decide | (show _ ≤ _; simp only [rmd]; omega)⟩ ?_
  intro ad16 hag16
  refine rp_X4_19 C hnam dX4_init_18 (by first | assumption | (simp [inD, up1, cnC, h94, h92, h4, h30, h13, h5, h31]; done) | (simp [inD, up1, cnC, h94, h92, h4, h30, h13, h5, h31]; omega)) (by first | assumption | (simp [inD, up1, cnC, h94, h92, h4, h30, h13, h5, h31]; done) | (simp [inD, up1, cnC, h94, h92, h4, h30, h13, h5, h31]; omega)) ?_
  refine w_aload_n C dX4_init_21 rfl ?_
  refine w_iconst C dX4_init_22 ?_
  refine rp_X4_23 C dX4_init_23 (by first | assumption | (simp [inD, up1, cnC, h94, h92, h4, h30, h13, h5, h31]; done) | (simp [inD, up1, cnC, h94, h92, h4, h30, h13, h5, h31]; omega)) ?_
  refine w_aload_n C dX4_init_26 rfl ?_
  refine w_bipush (v := 8) C dX4_init_27 rfl ?_
  refine w_newq (N := 8) (i := (j)) C (by first | rfl | assumption | (simp [up1, h94, h92, h4, h30, h13, h5, h31]; done)) dX4_init_29 lc_X4_27 (by simp [aoL]) rfl RA_13 (by decide) rfl rfl (by decide) ⟨by first | decide | (show _ ≤ _; simp only [rmd]; omega), by first | decide | (show _ ≤ _; simp only [rmd]; omega)⟩ ?_
  intro ad29 hag29
  refine rp_X4_29 C hnam dX4_init_32 (by first | assumption | (simp [inD, up1, cnC, h94, h92, h4, h30, h13, h5, h31]; done) | (simp [inD, up1, cnC, h94, h92, h4, h30, h13, h5, h31]; omega)) (by first | assumption | (simp [inD, up1, cnC, h94, h92, h4, h30, h13, h5, h31]; done) | (simp [inD, up1, cnC, h94, h92, h4, h30, h13, h5, h31]; omega)) ?_
  refine w_iconst C dX4_init_35 ?_
  refine w_istore_n C dX4_init_36 (by decide) ?_
  refine Wm.widen (c2 := 2 + 2 * 0) (s2 := 13 + 11 * 0) (by omega) (by omega) ?_
  refine Wm.eqC (cn' := fun k => if k = 13 ∨ k = 30 then j + 1 else if k = 5 ∨ k = 31 then 8 * j + 0 else if k = 92 then 0 else cn k) (by funext k; by_cases e92 : k = 92 <;> by_cases e5 : k = 5 <;> by_cases e31 : k = 31 <;> simp [up1, e92, e5, e31, h92, h5, h31]; (repeat' split) <;> omega) ?_
  refine Wm.lsub (lv' := [(0, aO 94 0), (3, aI ((0 : Nat) : Int))]) ⟨rfl, rfl, trivial⟩ (loop 8 0 _ _ rfl (fun k' i' h => ?_) ?_)
  · simp at h
    rw [hag29 k' i' (by omega), hag16 k' i' (by omega)]
  · refine ⟨?_, ?_, ?_, ⟨?_, ?_⟩, fun t => ?_, fun t => ?_, fun t ht => by omega⟩
    · exact ((((((Fr.rf.uI (by omega)).uI (by omega)).zM (by omega)).uR (by omega)).uI (by omega)).zM (by omega)).uR (by omega)
    · funext t
      by_cases e0 : t = 0
      · subst e0
        simp [uI, uR, zM, up3, hz]
      · by_cases e1 : t = 1
        · subst e1
          simp [uI, uR, zM, up3, hz]
        · by_cases e5 : t = 5
          · subst e5
            simp [uI, uR, zM, up3, hz]
          · simp [uI, uR, zM, up3, hz, e0, e1, e5]
    · simp [uI, uR, zM, hzl]
    · simp [uI, uR, zM, up3]
    · simp [uI, uR, zM, up3]
    · simp [uI, uR, zM, up3]
    · simp [uI, uR, zM, up3]
