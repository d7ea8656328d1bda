/-! the constructor of the marker -/
theorem Fr.zM {K : Nat → Nat → Prop} {M M' : Mem} {k i : Nat} (h : Fr K M M') (hk : K k i) : Fr K M (zM M' k i) := fun k' i' hk' => by
  have e9 : ¬ (k' = k ∧ i' = i) := fun q => hk' (by rw [q.1, q.2]; exact hk)
  obtain ⟨a1, a2, a3, a4⟩ := h k' i' hk'
  obtain ⟨b1, b2, b3, b4⟩ := zM_off M' e9
  exact ⟨b1.trans a1, b2.trans a2, b3.trans a3, b4.trans a4⟩
theorem Fr.cpM {K : Nat → Nat → Prop} {M M' : Mem} {r k i : Nat} (h : Fr K M M') (hk : K k i) : Fr K M (cpM M' r k i) := fun k' i' hk' => by
  have e9 : ¬ (k' = k ∧ i' = i) := fun q => hk' (by rw [q.1, q.2]; exact hk)
  obtain ⟨a1, a2, a3, a4⟩ := h k' i' hk'
  obtain ⟨b1, b3⟩ := cpM_off M' (r := r) e9
  exact ⟨b1.trans a1, a2, b3.trans a3, a4⟩
/-- what the pieces of a marker are while it is made -/
def PcA (m q : Nat) (M M1 : Mem) : Prop := Fr (fun k i => (k = 12 ∧ i = m) ∨ (k = 3 ∧ 40 * m ≤ i) ∨ k = 91) M M1 ∧ M1.1 91 0 = M.1 91 0 ∧ M1.2.1 91 0 0 = some m ∧ (∀ t, M1.2.1 12 m t = if t < q then some (40 * m + t) else none) ∧ ∀ i, 40 * m ≤ i → i < 40 * m + q → (∀ t, M1.1 3 i t = 0) ∧ ∀ t, M1.2.1 3 i t = none
theorem PcA.step {m q : Nat} {M M1 : Mem} (h : PcA m q M M1) : PcA m (q + 1) M (uR (zM M1 3 (40 * m + q)) 12 m q (some (40 * m + q))) := by
  obtain ⟨h1, h2, h3, h4, h5⟩ := h
  refine ⟨(h1.zM (Or.inr (Or.inl ⟨rfl, by omega⟩))).uR (Or.inl ⟨rfl, rfl⟩), ?_, ?_, fun t => ?_, fun i hi hi2 => ?_⟩
  · rw [← h2]
    exact (zM_off M1 (k := 3) (i := 40 * m + q) (k' := 91) (i' := 0) (by omega)).1
  · rw [← h3]
    rw [uR_get, if_neg (by omega)]
    exact congrFun (zM_off M1 (k := 3) (i := 40 * m + q) (k' := 91) (i' := 0) (by omega)).2.1 0
  · rw [uR_get, (zM_off M1 (k := 3) (i := 40 * m + q) (k' := 12) (i' := m) (by omega)).2.1, h4 t]
    (repeat' split) <;> first | rfl | (exfalso; omega) | (congr 1; omega)
  · by_cases e : i = 40 * m + q
    · subst e
      obtain ⟨z1, z2, -, -⟩ := zM_on M1 3 (40 * m + q)
      refine ⟨fun t => congrFun z1 t, fun t => ?_⟩
      rw [uR_get, if_neg (by omega)]
      exact congrFun z2 t
    · obtain ⟨z1, z2, -, -⟩ := zM_off M1 (k := 3) (i := 40 * m + q) (k' := 3) (i' := i) (by omega)
      refine ⟨fun t => (congrFun z1 t).trans ((h5 i hi (by omega)).1 t), fun t => ?_⟩
      rw [uR_get, if_neg (by omega)]
      exact (congrFun z2 t).trans ((h5 i hi (by omega)).2 t)
theorem Wm.eqC {p : Program} {l : Launch} {e : Env} {R : Room} {s : State} {m : MethodId} {args : Array Value} {below : List Frame} {meth : Method} {c : Code} {nL : Nat} {D : va_G} {cA : Nat → ClassId} {b0 : Nat → Prop} {cells slots : Nat} {Q : State → Prop} {lv : Lv} {st : List AV} {ad : Ads} {cn cn' : Nat → Nat} {M : Mem} {pc : Nat} (h : cn = cn') (kk : Wm p l e R s m args below meth c nL D cA b0 cells slots Q pc lv st ad cn' M) : Wm p l e R s m args below meth c nL D cA b0 cells slots Q pc lv st ad cn M := by rw [h]; exact kk
theorem c_X1_init {l : Launch} (hl : l.stackTraces = false) {b0 : Nat → Prop} {ad : Ads} {cn : Nat → Nat} {M : Mem} (x : Nat) (h91 : cn 91 = 1) (h2 : cn 2 = x) (h12 : cn 12 = x) (h3 : cn 3 = 40 * x) (h22 : cn 22 = x) (h23 : cn 23 = x) (h24 : cn 24 = x) (h25 : cn 25 = x) (h26 : cn 26 = x) (hz : M.1 91 0 = fun _ => 0) : ConN l b0 yX1_init cX1_init 2 none 2 46 1168 [aO 91 0] ad cn M (fun r ad' cn' M' => r = none ∧ ad' 2 x = ad 91 0 ∧ (∀ k' i', k' ∉ [2, 3, 12, 22, 23, 24, 25, 26] → ad' k' i' = ad k' i') ∧ cn' = (fun k => if k = 2 ∨ k = 12 ∨ k = 22 ∨ k = 23 ∨ k = 24 ∨ k = 25 ∨ k = 26 then x + 1 else if k = 3 then 40 * x + 40 else if k = 91 then 0 else cn k) ∧ Fr (fun k i => (i = x ∧ (k = 2 ∨ k = 12 ∨ k = 22 ∨ k = 23 ∨ k = 24 ∨ k = 25 ∨ k = 26)) ∨ (k = 3 ∧ 40 * x ≤ i) ∨ k = 91) M M' ∧ (∀ t, M'.1 2 x t = 0) ∧ (∀ t, t < 40 → M'.2.1 12 x t = some (40 * x + t)) ∧ (∀ i, 40 * x ≤ i → i < 40 * x + 40 → (∀ t, M'.1 3 i t = 0) ∧ ∀ t, M'.2.1 3 i t = none) ∧ (∀ t, t < 720 → M'.1 22 x t = -1) ∧ ∀ k, (k = 23 ∨ k = 24 ∨ k = 25 ∨ k = 26) → ∀ t, M'.1 k x t = 0) (fun _ _ => False) := by
  refine ConN.of hl pl_X1 (Nat.le_of_ble_eq_true rfl) ?_
  intro D cA p e s m args below meth c C hr hnam
  have hnam : meth.name = "<init>" := hnam
  have loop : ∀ (d q : Nat) (ad1 : Ads) (M1 : Mem), q + d = 40 → (∀ k' i', ¬ ((k' = 12 ∧ i' = x) ∨ (k' = 3 ∧ 40 * x ≤ i')) → ad1 k' i' = ad k' i') → PcA x q M M1 → Wm p l e (rmd 2 46 1168) s m args below meth c 2 D cA b0 (1 + q) (40 + 7 * q) (vx_MQ below (mQN D cA b0 (fun r ad' cn' M' => r = none ∧ ad' 2 x = ad 91 0 ∧ (∀ k' i', k' ∉ [2, 3, 12, 22, 23, 24, 25, 26] → ad' k' i' = ad k' i') ∧ cn' = (fun k => if k = 2 ∨ k = 12 ∨ k = 22 ∨ k = 23 ∨ k = 24 ∨ k = 25 ∨ k = 26 then x + 1 else if k = 3 then 40 * x + 40 else if k = 91 then 0 else cn k) ∧ Fr (fun k i => (i = x ∧ (k = 2 ∨ k = 12 ∨ k = 22 ∨ k = 23 ∨ k = 24 ∨ k = 25 ∨ k = 26)) ∨ (k = 3 ∧ 40 * x ≤ i) ∨ k = 91) M M' ∧ (∀ t, M'.1 2 x t = 0) ∧ (∀ t, t < 40 → M'.2.1 12 x t = some (40 * x + t)) ∧ (∀ i, 40 * x ≤ i → i < 40 * x + 40 → (∀ t, M'.1 3 i t = 0) ∧ ∀ t, M'.2.1 3 i t = none) ∧ (∀ t, t < 720 → M'.1 22 x t = -1) ∧ ∀ k, (k = 23 ∨ k = 24 ∨ k = 25 ∨ k = 26) → ∀ t, M'.1 k x t = 0)) (mX D cA b0 ad cn (fun _ _ => False)) args s 46 1168 b0) 15 [(0, aO 91 0), (1, aI q)] [] ad1 (fun k => if k = 12 then x + 1 else if k = 3 then 40 * x + q else cn k) M1 := by
    intro d
    induction d with
    | zero =>
      intro q ad1 M1 hq hag hP
      obtain rfl : q = 40 := by omega
      refine w_iload_n C dX1_init_15 rfl ?_
      refine w_aload_n C dX1_init_16 rfl ?_
      refine rg_X1_11 C dX1_init_17 (by first | assumption | (simp [inD, up1, cnC, h91, h2, h12, h3, h22, h23, h24, h25, h26]; done) | (simp [inD, up1, cnC, h91, h2, h12, h3, h22, h23, h24, h25, h26]; omega)) ?_
      refine Wm.top (show _ = aO 12 x by rw [hP.2.2.1]; rfl) ?_
      refine w_alen C dX1_init_20 (by simp [inD]) (Or.inr (Or.inr (Or.inr ⟨7, 3, by decide, RA_12⟩))) ?_
      refine w_icmp_ge C dX1_init_21 (by omega) (by omega) (fun h21 => ?_) (fun h21 => ?_)
      · refine w_aload_n C dX1_init_43 rfl ?_
        refine w_sipush (v := 720) C dX1_init_44 rfl ?_
        refine w_newI (N := 720) (i := (x)) C (by first | rfl | assumption | (simp [up1, h91, h2, h12, h3, h22, h23, h24, h25, h26]; done)) dX1_init_47 mA_int IA_22 (by decide) rfl rfl (by decide) ⟨by first | decide | (show _ ≤ _; simp only [rmd]; omega), by first | decide | (show _ ≤ _; simp only [rmd]; omega)⟩ ?_
        intro ad47 hag47
        refine rp_X1_18 C hnam dX1_init_49 (by first | assumption | (simp [inD, up1, cnC, h91, h2, h12, h3, h22, h23, h24, h25, h26]; done) | (simp [inD, up1, cnC, h91, h2, h12, h3, h22, h23, h24, h25, h26]; omega)) (by first | assumption | (simp [inD, up1, cnC, h91, h2, h12, h3, h22, h23, h24, h25, h26]; done) | (simp [inD, up1, cnC, h91, h2, h12, h3, h22, h23, h24, h25, h26]; omega)) ?_
        refine w_aload_n C dX1_init_52 rfl ?_
        refine rg_X1_18 C dX1_init_53 (by first | assumption | (simp [inD, up1, cnC, h91, h2, h12, h3, h22, h23, h24, h25, h26]; done) | (simp [inD, up1, cnC, h91, h2, h12, h3, h22, h23, h24, h25, h26]; omega)) ?_
        refine Wm.top (show _ = aO 22 x by simp [uR, up3]) ?_
        refine w_iconst C dX1_init_56 ?_
        refine w_callS0 C dX1_init_57 (c_J7_fillN hl IA_22 (by simp [inD, up1]) (-1)) mJ7_fill_53178 sJ7_fill_53178 lk_X1_22 rfl rfl ⟨by decide, by decide, by decide, by decide⟩ (Nat.le_of_ble_eq_true rfl) (fun E M' h => h.elim) (fun r_ M_ q57 => ?_)
        obtain ⟨f1, f2, f3, f4, rfl⟩ := q57
        have e0 : M_.2.1 91 0 0 = some x := by rw [f2]; simp [uR, up3, zM, hP.2.2.1]
        have e1 : M_.2.1 91 0 3 = some x := by rw [f2]; simp [uR, up3]
        have eM : M_.1 91 0 = fun _ => 0 := by rw [(f1 91 0 (by omega)).1, ← hz, ← hP.2.1]; exact (zM_off M1 (k := 22) (i := x) (k' := 91) (i' := 0) (by omega)).1
        refine w_aload_n C dX1_init_60 rfl ?_
        refine w_bipush (v := 60) C dX1_init_61 rfl ?_
        refine w_newI (N := 60) (i := (x)) C (by first | rfl | assumption | (simp [up1, h91, h2, h12, h3, h22, h23, h24, h25, h26]; done)) dX1_init_63 mA_int IA_23 (by decide) rfl rfl (by decide) ⟨by first | decide | (show _ ≤ _; simp only [rmd]; omega), by first | decide | (show _ ≤ _; simp only [rmd]; omega)⟩ ?_
        intro ad63 hag63
        refine rp_X1_28 C hnam dX1_init_65 (by first | assumption | (simp [inD, up1, cnC, h91, h2, h12, h3, h22, h23, h24, h25, h26]; done) | (simp [inD, up1, cnC, h91, h2, h12, h3, h22, h23, h24, h25, h26]; omega)) (by first | assumption | (simp [inD, up1, cnC, h91, h2, h12, h3, h22, h23, h24, h25, h26]; done) | (simp [inD, up1, cnC, h91, h2, h12, h3, h22, h23, h24, h25, h26]; omega)) ?_
        refine w_aload_n C dX1_init_68 rfl ?_
        refine w_iconst C dX1_init_69 ?_
        refine w_newI (N := 4) (i := (x)) C (by first | rfl | assumption | (simp [up1, h91, h2, h12, h3, h22, h23, h24, h25, h26]; done)) dX1_init_70 mA_int IA_24 (by decide) rfl rfl (by decide) ⟨by first | decide | (show _ ≤ _; simp only [rmd]; omega), by first | decide | (show _ ≤ _; simp only [rmd]; omega)⟩ ?_
        intro ad70 hag70
        refine rp_X1_31 C hnam dX1_init_72 (by first | assumption | (simp [inD, up1, cnC, h91, h2, h12, h3, h22, h23, h24, h25, h26]; done) | (simp [inD, up1, cnC, h91, h2, h12, h3, h22, h23, h24, h25, h26]; omega)) (by first | assumption | (simp [inD, up1, cnC, h91, h2, h12, h3, h22, h23, h24, h25, h26]; done) | (simp [inD, up1, cnC, h91, h2, h12, h3, h22, h23, h24, h25, h26]; omega)) ?_
        refine w_aload_n C dX1_init_75 rfl ?_
        refine w_iconst C dX1_init_76 ?_
        refine w_newI (N := 4) (i := (x)) C (by first | rfl | assumption | (simp [up1, h91, h2, h12, h3, h22, h23, h24, h25, h26]; done)) dX1_init_77 mA_int IA_25 (by decide) rfl rfl (by decide) ⟨by first | decide | (show _ ≤ _; simp only [rmd]; omega), by first | decide | (show _ ≤ _; simp only [rmd]; omega)⟩ ?_
        intro ad77 hag77
        refine rp_X1_34 C hnam dX1_init_79 (by first | assumption | (simp [inD, up1, cnC, h91, h2, h12, h3, h22, h23, h24, h25, h26]; done) | (simp [inD, up1, cnC, h91, h2, h12, h3, h22, h23, h24, h25, h26]; omega)) (by first | assumption | (simp [inD, up1, cnC, h91, h2, h12, h3, h22, h23, h24, h25, h26]; done) | (simp [inD, up1, cnC, h91, h2, h12, h3, h22, h23, h24, h25, h26]; omega)) ?_
        refine w_aload_n C dX1_init_82 rfl ?_
        refine w_bipush (v := 60) C dX1_init_83 rfl ?_
        refine w_newI (N := 60) (i := (x)) C (by first | rfl | assumption | (simp [up1, h91, h2, h12, h3, h22, h23, h24, h25, h26]; done)) dX1_init_85 mA_int IA_26 (by decide) rfl rfl (by decide) ⟨by first | decide | (show _ ≤ _; simp only [rmd]; omega), by first | decide | (show _ ≤ _; simp only [rmd]; omega)⟩ ?_
        intro ad85 hag85
        refine rp_X1_37 C hnam dX1_init_87 (by first | assumption | (simp [inD, up1, cnC, h91, h2, h12, h3, h22, h23, h24, h25, h26]; done) | (simp [inD, up1, cnC, h91, h2, h12, h3, h22, h23, h24, h25, h26]; omega)) (by first | assumption | (simp [inD, up1, cnC, h91, h2, h12, h3, h22, h23, h24, h25, h26]; done) | (simp [inD, up1, cnC, h91, h2, h12, h3, h22, h23, h24, h25, h26]; omega)) ?_
        refine Wm.commit 91 2 x (by simp [up1, h2]) (by decide) (by decide) (by simp [up1, h91]) (by simp [fT, inD, up1]) (fun _ => rfl) rfl rfl (fun ad' => by simp [cellG, uR, up3, zM, va_rf, e0, e1]) ?_
        intro ad8 h8 hag8
        refine w_vretN C hr dX1_init_90 (⟨rfl, by rw [h8, hag85 _ _ (by omega), hag77 _ _ (by omega), hag70 _ _ (by omega), hag63 _ _ (by omega), hag47 _ _ (by omega), hag _ _ (by omega)], fun k' i' h => ?_, ?_, ?_, fun t => ?_, fun t ht => ?_, fun i hi1 hi2 => ?_, fun t ht => ?_, fun k hk t => ?_⟩) (by first | decide | omega) (by first | decide | omega)
        · simp at h
          rw [hag8 _ _ (by omega), hag85 _ _ (by omega), hag77 _ _ (by omega), hag70 _ _ (by omega), hag63 _ _ (by omega), hag47 _ _ (by omega), hag _ _ (by omega)]
        · funext k
          simp only [up1]
          (repeat' split) <;> omega
        · have g1 := (hP.1.mono (fun k i h => (by omega : (i = x ∧ (k = 2 ∨ k = 12 ∨ k = 22 ∨ k = 23 ∨ k = 24 ∨ k = 25 ∨ k = 26)) ∨ (k = 3 ∧ 40 * x ≤ i) ∨ k = 91)))
          have g2 := (((g1.zM (k := 22) (i := x) (by omega)).uR (k := 91) (i := 0) (s := 3) (v := some x) (by omega)).tr (f1.mono (fun k i h => by omega)))
          exact ((((((((g2.zM (by omega)).uR (by omega)).zM (by omega)).uR (by omega)).zM (by omega)).uR (by omega)).zM (by omega)).uR (by omega)).cpM (by omega)
        · simp [cpM, uR, zM, eM]
        · have g := congrArg (fun z => z.1 12 x t) f2
          simp [uR, up3, zM] at g
          simp [cpM, uR, up3, zM]
          rw [g, hP.2.2.2.1 t, if_pos ht]
        · obtain ⟨p1, p2⟩ := hP.2.2.2.2 i hi1 hi2
          refine ⟨fun t => ?_, fun t => ?_⟩
          · have g := congrFun (f1 3 i (by omega)).1 t
            simp [uR, zM] at g
            simp [cpM, uR, zM]
            rw [g, p1 t]
          · have g := congrArg (fun z => z.1 3 i t) f2
            simp [uR, up3, zM] at g
            simp [cpM, uR, up3, zM]
            rw [g, p2 t]
        · simp [cpM, uR, zM]
          exact f3 t ht
        · rcases hk with rfl | rfl | rfl | rfl <;> simp [cpM, uR, zM]
      · omega
    | succ d ih =>
      intro q ad1 M1 hq hag hP
      refine w_iload_n C dX1_init_15 rfl ?_
      refine w_aload_n C dX1_init_16 rfl ?_
      refine rg_X1_11 C dX1_init_17 (by first | assumption | (simp [inD, up1, cnC, h91, h2, h12, h3, h22, h23, h24, h25, h26]; done) | (simp [inD, up1, cnC, h91, h2, h12, h3, h22, h23, h24, h25, h26]; omega)) ?_
      refine Wm.top (show _ = aO 12 x by rw [hP.2.2.1]; rfl) ?_
      refine w_alen C dX1_init_20 (by simp [inD]) (Or.inr (Or.inr (Or.inr ⟨7, 3, by decide, RA_12⟩))) ?_
      refine w_icmp_ge C dX1_init_21 (by omega) (by omega) (fun h21 => ?_) (fun h21 => ?_)
      · omega
      · refine w_aload_n C dX1_init_24 rfl ?_
        refine rg_X1_11 C dX1_init_25 (by first | assumption | (simp [inD, up1, cnC, h91, h2, h12, h3, h22, h23, h24, h25, h26]; done) | (simp [inD, up1, cnC, h91, h2, h12, h3, h22, h23, h24, h25, h26]; omega)) ?_
        refine Wm.top (show _ = aO 12 x by rw [hP.2.2.1]; rfl) ?_
        refine w_iload_n C dX1_init_28 rfl ?_
        refine w_new_X3 (i := (40 * x + q)) C (by first | rfl | assumption | (simp [up1, h91, h2, h12, h3, h22, h23, h24, h25, h26]; done)) dX1_init_29 lc_X1_9 rfl ⟨by first | decide | (show _ ≤ _; simp only [rmd]; omega), by first | decide | (show _ ≤ _; simp only [rmd]; omega)⟩ ?_
        intro ad29 hag29
        refine w_dup C dX1_init_32 rfl ?_
        refine w_ctor (ks := []) C dX1_init_33 (c_X3_init hl (40 * x + q)) mX3_init vi_X3_init li_X1_17 rfl rfl ⟨by first | decide | (simp only [rmd]; omega), by first | decide | (simp only [rmd]; omega), by first | decide | (simp only [rmd]; omega), by first | decide | (simp only [rmd]; omega)⟩ (Nat.le_of_ble_eq_true rfl) rfl (fun _ _ _ _ h => ⟨h.1, h.2.1, h.2.2.1⟩) (fun ad33 cn33 M33 q33 => ?_)
        obtain ⟨-, -, g33, rfl, rfl⟩ := q33
        refine w_aast (ci := 3) C dX1_init_36 (by simp [inD, up1]) RA_12 rfl rfl (fun _ => rfl) (by simp [inD, up1]) rfl (by omega) ?_
        refine w_iinc C dX1_init_37 rfl (by decide) ?_
        refine w_goto C dX1_init_40 ?_
        refine Wm.widen (c2 := 1 + (q + 1)) (s2 := 40 + 7 * (q + 1)) (by omega) (by omega) ?_
        refine Wm.eqC (cn' := fun k => if k = 12 then x + 1 else if k = 3 then 40 * x + (q + 1) else cn k) (by funext k; by_cases e3 : k = 3 <;> simp [up1, e3]; omega) ?_
        refine Wm.lsub (lv' := [(0, aO 91 0), (1, aI ((q + 1 : Nat) : Int))]) ⟨rfl, rfl, trivial⟩ (ih (q + 1) _ _ (by omega) (fun k' i' h => ?_) hP.step)
        rw [g33 k' i' (by simp), hag29 k' i' (by omega), hag k' i' h]
  refine w_aload_n C dX1_init_0 rfl ?_
  refine w_objInit C dX1_init_1 lo_X1_3 mObjI mObjC ⟨by decide, by decide⟩ (Nat.le_of_ble_eq_true rfl) ?_
  refine w_aload_n C dX1_init_4 rfl ?_
  refine w_bipush (v := 40) C dX1_init_5 rfl ?_
  refine w_newq (N := 40) (i := (x)) C (by first | rfl | assumption | (simp [up1, h91, h2, h12, h3, h22, h23, h24, h25, h26]; done)) dX1_init_7 lc_X1_9 (by simp [aoL]) rfl RA_12 (by decide) rfl rfl (by decide) ⟨by first | decide | (show _ ≤ _; simp only [rmd]; omega), by first | decide | (show _ ≤ _; simp only [rmd]; omega)⟩ ?_
  intro ad7 hag7
  refine rp_X1_11 C hnam dX1_init_10 (by first | assumption | (simp [inD, up1, cnC, h91, h2, h12, h3, h22, h23, h24, h25, h26]; done) | (simp [inD, up1, cnC, h91, h2, h12, h3, h22, h23, h24, h25, h26]; omega)) (by first | assumption | (simp [inD, up1, cnC, h91, h2, h12, h3, h22, h23, h24, h25, h26]; done) | (simp [inD, up1, cnC, h91, h2, h12, h3, h22, h23, h24, h25, h26]; omega)) ?_
  refine w_iconst C dX1_init_13 ?_
  refine w_istore_n C dX1_init_14 (by decide) ?_
  refine Wm.widen (c2 := 1 + 0) (s2 := 40 + 7 * 0) (by omega) (by omega) ?_
  refine Wm.eqC (cn' := fun k => if k = 12 then x + 1 else if k = 3 then 40 * x + 0 else cn k) (by funext k; by_cases e3 : k = 12 <;> simp [up1, e3]; intro e4; rw [e4, h3]) ?_
  refine Wm.lsub (lv' := [(0, aO 91 0), (1, aI ((0 : Nat) : Int))]) ⟨rfl, rfl, trivial⟩ (loop 40 0 _ _ rfl (fun k' i' h => ?_) ?_)
  · rw [hag7 k' i' (by omega)]
  · refine ⟨(Fr.rf.zM (Or.inl ⟨rfl, rfl⟩)).uR (Or.inr (Or.inr rfl)), ?_, ?_, fun t => ?_, fun i h1 h2 => by omega⟩
    · exact (zM_off M (k := 12) (i := x) (k' := 91) (i' := 0) (by omega)).1
    · simp [uR, up3]
    · rw [uR_get, if_neg (by omega), (zM_on M 12 x).2.1, if_neg (by omega)]
