-- MODEL
/-! the model: isSound, density, meanCells -/
theorem cnt_or {α : Type} (a b : α → Bool) : ∀ (L : List α), (∀ x ∈ L, ¬ (a x = true ∧ b x = true)) → L.countP (fun x => a x || b x) = L.countP a + L.countP b
  | [], _ => rfl
  | x :: L, h => by
    have ih := cnt_or a b L fun y hy => h y (List.mem_cons_of_mem _ hy)
    have hx := h x List.mem_cons_self
    rw [List.countP_cons, List.countP_cons, List.countP_cons, ih]
    cases ha : a x <;> cases hb : b x
    · simp
    · simp; omega
    · simp; omega
    · exact absurd ⟨ha, hb⟩ hx
theorem cl_nodup (d : Nat → Bool) (t w : Nat) : (cl d t w).Nodup := by
  unfold cl List.Nodup
  rw [List.pairwise_map]
  refine List.Pairwise.imp_of_mem (fun {a b} ha hb hab e => ?_) ((List.nodup_range (n := 25)).filter d)
  rw [List.mem_filter, List.mem_range] at ha hb
  have a1 : topS d t w ≤ tR t w a := lst5_min (rowB_iff.mpr ⟨a, ha.1, ha.2, rfl⟩)
  have a2 : leftS d t w ≤ tC t w a := lst5_min (colB_iff.mpr ⟨a, ha.1, ha.2, rfl⟩)
  have c1 : topS d t w ≤ tR t w b := lst5_min (rowB_iff.mpr ⟨b, hb.1, hb.2, rfl⟩)
  have c2 : leftS d t w ≤ tC t w b := lst5_min (colB_iff.mpr ⟨b, hb.1, hb.2, rfl⟩)
  have e1 := (Prod.mk.inj e).1
  have e2 := (Prod.mk.inj e).2
  exact hab (tRC_inj (t := t) (mi := w) ha.1 hb.1 (by omega) (by omega))
theorem cv_cnt {S : Sg} {q : Pc} (hC : InvC S) (hw : colsS S ≤ 12) (h1 : (pRow q : Int) + hgt (dB S (pShp q)) (pTrn q) (pMir q) ≤ 60) (h2 : (pCol q : Int) + wid (dB S (pShp q)) (pTrn q) (pMir q) ≤ colsS S) : (List.range 720).countP (fun k => cv S q (k / 12) (k % 12)) = szS S (pShp q) := by
  rw [hC (pShp q), ← cl_len (dB S (pShp q)) (pTrn q) (pMir q), List.countP_eq_length_filter]
  have hm : ∀ p ∈ cl (dB S (pShp q)) (pTrn q) (pMir q), pRow q + p.1 < 60 ∧ pCol q + p.2 < 12 := fun p hp => by
    have hn := nc_lt (mem_cl.mp hp)
    omega
  have hp : ((List.range 720).filter fun k => cv S q (k / 12) (k % 12)).Perm ((cl (dB S (pShp q)) (pTrn q) (pMir q)).map fun p => 12 * (pRow q + p.1) + (pCol q + p.2)) := by
    refine (List.perm_ext_iff_of_nodup ((List.nodup_range (n := 720)).filter _) ?_).mpr fun k => ?_
    · unfold List.Nodup
      rw [List.pairwise_map]
      refine List.Pairwise.imp_of_mem (fun {a b} ha hb hab e => hab ?_) (cl_nodup (dB S (pShp q)) (pTrn q) (pMir q))
      have := hm a ha
      have := hm b hb
      exact Prod.ext (by omega) (by omega)
    · rw [List.mem_filter, List.mem_range, List.mem_map, cv_iff]
      constructor
      · rintro ⟨hk, r', c', e1, e2, e3⟩
        exact ⟨(r', c'), mem_cl.mpr e3, by show 12 * (pRow q + r') + (pCol q + c') = k; omega⟩
      · rintro ⟨p, hp, e⟩
        have hb := hm p hp
        exact ⟨by omega, p.1, p.2, by omega, by omega, mem_cl.mp hp⟩
  rw [hp.length_eq, List.length_map]
theorem used_cnt {S : Sg} (hC : InvC S) (hw : colsS S ≤ 12) : ∀ {P : List Pc}, (∀ p ∈ P, ((pRow p : Int) + hgt (dB S (pShp p)) (pTrn p) (pMir p) ≤ 60) ∧ ((pCol p : Int) + wid (dB S (pShp p)) (pTrn p) (pMir p) ≤ colsS S)) → P.Pairwise (fun p q => pNum p < pNum q ∧ ∀ r c, ¬ (cv S p r c = true ∧ cv S q r c = true)) → (List.range 720).countP (fun k => decide (clo S P k ≠ -1)) = usedS S P
  | [], _, _ => by
    have : (fun k => decide (clo S [] k ≠ -1)) = fun _ : Nat => false := by
      funext k
      rw [clo_nil]
      rfl
    rw [this]
    exact List.countP_false ▸ rfl
  | q :: P, h1, h2 => by
    obtain ⟨hq, hP⟩ := List.pairwise_cons.mp h2
    have ih := used_cnt hC hw (fun p hp => h1 p (List.mem_cons_of_mem _ hp)) hP
    have hc := h1 q List.mem_cons_self
    have e : (fun k => decide (clo S (q :: P) k ≠ -1)) = fun k => cv S q (k / 12) (k % 12) || decide (clo S P k ≠ -1) := by
      funext k
      have h3 := clo_no (S := S) (P := q :: P) (k := k)
      have h4 := clo_no (S := S) (P := P) (k := k)
      cases hcv : cv S q (k / 12) (k % 12) with
      | true =>
        rw [Bool.true_or, decide_eq_true_iff]
        intro z
        have := h3.mp z q List.mem_cons_self
        rw [hcv] at this
        cases this
      | false =>
        rw [Bool.false_or]
        refine decide_eq_decide.mpr (not_congr ?_)
        rw [h3, h4]
        constructor
        · exact fun z p hp => z p (List.mem_cons_of_mem _ hp)
        · intro z p hp
          rcases List.mem_cons.mp hp with y | y
          · rw [y]; exact hcv
          · exact z p y
    rw [e, cnt_or _ _ _ (fun k _ z => ?_), cv_cnt hC hw hc.1 hc.2, ih]
    · unfold usedS
      rw [List.map_cons, List.sum_cons]
    · have h4 : ¬ clo S P k = -1 := of_decide_eq_true z.2
      refine h4 (clo_no.mpr fun p hp => ?_)
      cases hx : cv S p (k / 12) (k % 12) with
      | false => rfl
      | true => exact absurd ⟨z.1, hx⟩ ((hq p hp).2 _ _)
theorem sum_add (f g : Nat → Nat) (n : Nat) : sumN (fun i => f i + g i) n = sumN f n + sumN g n := by
  induction n with
  | zero => rfl
  | succ n ih =>
    show sumN _ n + (f n + g n) = sumN f n + f n + (sumN g n + g n)
    rw [ih]
    omega
theorem sum_mul (c : Nat) (f : Nat → Nat) (n : Nat) : sumN (fun i => c * f i) n = c * sumN f n := by
  induction n with
  | zero => rfl
  | succ n ih =>
    show sumN _ n + c * f n = c * (sumN f n + f n)
    rw [ih, Nat.mul_add]
theorem sum_swap (f : Nat → Nat → Nat) (n m : Nat) : sumN (fun j => sumN (fun y => f y j) m) n = sumN (fun y => sumN (fun j => f y j) n) m := by
  induction n with
  | zero =>
    show 0 = _
    exact (sumN_0.mpr fun y _ => rfl).symm
  | succ n ih =>
    show sumN _ n + sumN (fun y => f y n) m = sumN (fun y => sumN (fun j => f y j) n + f y n) m
    rw [ih, ← sum_add]
theorem sum_cut0 (f : Nat → Nat) {n m : Nat} (hnm : n ≤ m) (h : ∀ i, n ≤ i → f i = 0) : sumN f m = sumN f n := by
  induction m with
  | zero => rw [show n = 0 by omega]
  | succ m ih =>
    by_cases hn : n = m + 1
    · rw [hn]
    · show sumN f m + f m = _
      rw [ih (by omega), h m (by omega)]
      rfl
theorem all_cut {S : Sg} (hG : GInv S) (hZ : InvZ S) : sumN (fun i => stS S (i / 2) (i % 2)) (2 * nsS S) + sumN (fun y => mdS S y * takS S y) (ntS S) = cutS S := by
  have e1 : cutS S = sumN (fun j => garS S j + ((fun i => stS S (i / 2) (i % 2)) (2 * j) + (fun i => stS S (i / 2) (i % 2)) (2 * j + 1))) (nsS S) := by
    unfold cutS
    refine sumN_cg fun j _ => ?_
    show stS S j 0 + stS S j 1 + garS S j = garS S j + (stS S (2 * j / 2) (2 * j % 2) + stS S ((2 * j + 1) / 2) ((2 * j + 1) % 2))
    rw [show 2 * j / 2 = j by omega, show 2 * j % 2 = 0 by omega, show (2 * j + 1) / 2 = j by omega, show (2 * j + 1) % 2 = 1 by omega]
    omega
  have e2 : sumN (garS S) (nsS S) = sumN (fun y => mdS S y * takS S y) (ntS S) := by
    have h1 : sumN (garS S) (nsS S) = sumN (fun y => sumN (fun j => mdS S y * (ctS S y j * pppS S j)) (nsS S)) 4 := sum_swap (fun y j => mdS S y * (ctS S y j * pppS S j)) (nsS S) 4
    have h2 : sumN (fun y => sumN (fun j => mdS S y * (ctS S y j * pppS S j)) (nsS S)) 4 = sumN (fun y => mdS S y * takS S y) 4 := sumN_cg fun y _ => sum_mul _ _ _
    rw [h1, h2]
    exact sum_cut0 _ hG.2.2.2.2.2.2.1 fun y hy => by rw [(hZ.2 y hy).1, Nat.zero_mul]
  rw [e1, sum2 (garS S) (fun i => stS S (i / 2) (i % 2)), e2]
  omega
theorem cut_bd {S : Sg} (hG : GInv S) (hE : ∀ j, eS S j < 1000000000) : cutS S ≤ 8000000000 := by
  have h : cutS S ≤ nsS S * 1000000000 := sumN_le fun j _ => Nat.le_of_lt (hE j)
  have := hG.2.2.2.2.2.1
  omega
theorem len_pos {S : Sg} {P : List Pc} {nx : Nat} (hI : Inv S P nx) (hC : InvC S) (hP : P ≠ []) : 0 < lenR S P := by
  obtain ⟨q, P', rfl⟩ : ∃ q P', P = q :: P' := by
    cases P with
    | nil => exact absurd rfl hP
    | cons q P' => exact ⟨q, P', rfl⟩
  obtain ⟨i1, i2, i3, i4, i5, i6, i7, i8⟩ := hI.2.1.1 q List.mem_cons_self
  obtain ⟨r, c', e1, e2⟩ := hgt_cell (d := dB S (pShp q)) (t := pTrn q) (mi := pMir q) (hC.ex (by omega))
  have hn := nc_lt e1
  have hcs := cols12 hI.1
  refine Nat.pos_of_ne_zero fun z => ?_
  have hl : ∀ n, lenF (anyRow S (q :: P')) n = 0 → ∀ u, u < n → anyRow S (q :: P') u = false := by
    intro n
    induction n with
    | zero => exact fun _ u hu => absurd hu (Nat.not_lt_zero u)
    | succ n ih =>
      intro h u hu
      unfold lenF at h
      split at h
      · omega
      · rename_i h9
        by_cases hun : u = n
        · rw [hun]
          cases hx : anyRow S (q :: P') n with
          | false => rfl
          | true => exact absurd hx h9
        · exact ih h u (by omega)
  have h1 := hl 60 z (pRow q + r) (by omega)
  unfold anyRow at h1
  rw [List.any_eq_false] at h1
  have h2 := h1 (pCol q + c') (List.mem_range.mpr (by omega))
  refine h2 (decide_eq_true fun h3 => ?_)
  have h4 := clo_no.mp h3 q List.mem_cons_self
  rw [show (12 * (pRow q + r) + (pCol q + c')) / 12 = pRow q + r by omega, show (12 * (pRow q + r) + (pCol q + c')) % 12 = pCol q + c' by omega] at h4
  rw [cv_iff.mpr ⟨r, c', rfl, rfl, e1⟩] at h4
  cases h4
theorem used_le {S : Sg} {P : List Pc} (hG : GInv S) (hP : P.length ≤ 40) : usedS S P ≤ 1000 := by
  have h : ∀ L : List Pc, usedS S L ≤ 25 * L.length := by
    intro L
    induction L with
    | nil => exact Nat.le_refl _
    | cons q L ih =>
      unfold usedS at ih ⊢
      rw [List.map_cons, List.sum_cons, List.length_cons]
      have := (hG.2.2.2.2.2.2.2.2.2.1 (pShp q)).2.2.2.2.1
      omega
  have := h P
  omega
theorem area_bd {S : Sg} {P : List Pc} (hG : GInv S) : lenR S P * colsS S ≤ 720 := by
  have h1 := lenR_le S P
  have h2 := cols12 hG
  exact Nat.mul_le_mul h1 h2
theorem cols_pos {S : Sg} (hG : GInv S) : 0 < colsS S := by
  have := hG.1
  unfold colsS
  split <;> omega
section Rows
variable {p : Program} {l : Launch} {e : Env} {R : Room} {s : State} {m : MethodId} {args : Array Value} {below : List Frame} {meth : Method} {c : Code} {nL : Nat} {D : va_G} {cA : Nat → ClassId} {b0 : Nat → Prop} {cells slots : Nat} {Q : State → Prop} {lv : Lv} {st : List AV} {ad : Ads} {cn : Nat → Nat} {M : Mem} {cc : ByteArray} {own : String} {tab : List ExceptionTableEntry} {pc pc' : Nat}
theorem w_fconst (C : Cx l p s m args meth c cc own nL D cA b0 tab) (hd : DI cc pc (.fconst 0) 1 pc') (kk : Wm p l e R s m args below meth c nL D cA b0 cells slots Q pc' lv (aF FP.fconst0 :: st) ad cn M) : Wm p l e R s m args below meth c nL D cA b0 cells slots Q pc lv st ad cn M := fun H locs ls hw hS hl => lv_fconst0 C.1 C.2.1 hd.1 (by have k := kk H locs ls hw hS hl; rw [← hd.2] at k; exact k)
theorem w_dconst (C : Cx l p s m args meth c cc own nL D cA b0 tab) (hd : DI cc pc (.dconst 0) 1 pc') (kk : Wm p l e R s m args below meth c nL D cA b0 cells slots Q pc' lv (aD FP.dconst0 :: st) ad cn M) : Wm p l e R s m args below meth c nL D cA b0 cells slots Q pc lv st ad cn M := fun H locs ls hw hS hl => lv_dconst0 C.1 C.2.1 hd.1 (by have k := kk H locs ls hw hS hl; rw [← hd.2] at k; exact k)
end Rows
section Mo
variable {l : Launch} {b0 : Nat → Prop} {ad : Ads} {M : Mem}
theorem c_X7_density (hl : l.stackTraces = false) {S : Sg} {P : List Pc} {nx : Nat} (hI : Inv S P nx) (hC : InvC S) (hnx : nx < 1000000) (hR : RepMo S P nx M) : Con l b0 yX7_density cX7_density 1 (some .float) 2 0 0 [aO 40 0] ad cntM M (fun r9 M' => RepMo S P nx M' ∧ M'.1 40 0 0 = (if P.length = 0 then 1 else 0 : Nat) ∧ ∃ v, r9 = some (aF v) ∧ (P.length ≠ 0 → v = dnF (usedS S P) (lenR S P * colsS S))) noX := by
  have e17 := hR.1.2.2.2.2.2.2.1
  have hP := hI.2.2.1
  have hu := used_le (S := S) hI.1 hP
  have har := area_bd (P := P) hI.1
  refine Con.of hl pl_X7 (Nat.le_of_ble_eq_true rfl) ?_
  intro D cA p e s m args below meth c C hr
  refine w_aload_n C dX7_density_0 rfl ?_
  refine w_aload_n C dX7_density_1 rfl ?_
  refine g_X7_112 C dX7_density_2 (by first | assumption | exact Nat.zero_lt_one | exact Nat.zero_lt_two | exact Nat.one_lt_two) ?_
  refine w_if_ne C dX7_density_5 (by omega) (fun h5 => ?_) (fun h5 => ?_)
  · refine w_iconst C dX7_density_12 ?_
    refine w_callV C dX7_density_13 (c_X7_failsN hl 0 (by omega)) mX7_fails vX7_fails lk_X7_129 (by first | assumption | exact Nat.zero_lt_one | exact Nat.zero_lt_two | exact Nat.one_lt_two) rfl rfl rfl rfl ⟨by decide, by decide, by decide, by decide⟩ (Nat.le_of_ble_eq_true rfl) (fun _ _ h => h.elim) ⟨by decide, by decide⟩ (fun r_ MF q13 => ?_)
    obtain ⟨kF, kT, rfl⟩ := q13
    have hRF := hR.fr kF.fr
    refine w_if_eq_y C dX7_density_16 (by omega) (by decide) ?_
    refine w_aload_n C dX7_density_23 rfl ?_
    refine w_callV C dX7_density_24 (c_X7_cellsUsed hl hI hRF) mX7_cellsUsed vX7_cellsUsed lk_X7_224 (by first | assumption | exact Nat.zero_lt_one | exact Nat.zero_lt_two | exact Nat.one_lt_two) rfl rfl rfl rfl ⟨by decide, by decide, by decide, by decide⟩ (Nat.le_of_ble_eq_true rfl) (fun _ _ h => h.elim) ⟨by decide, by decide⟩ (fun r_ M_ q24 => ?_)
    obtain ⟨rfl, rfl⟩ := q24
    refine w_i2f C dX7_density_27 ?_
    refine w_aload_n C dX7_density_28 rfl ?_
    refine w_callV C dX7_density_29 (c_X7_longest hl hI hnx hRF) mX7_longest vX7_longest lk_X7_218 (by first | assumption | exact Nat.zero_lt_one | exact Nat.zero_lt_two | exact Nat.one_lt_two) rfl rfl rfl rfl ⟨by decide, by decide, by decide, by decide⟩ (Nat.le_of_ble_eq_true rfl) (fun _ _ h => h.elim) ⟨by decide, by decide⟩ (fun r_ M_ q29 => ?_)
    obtain ⟨rfl, rfl⟩ := q29
    refine w_aload_n C dX7_density_32 rfl ?_
    refine w_callV C dX7_density_33 (c_X7_columns hl hI.1 hRF) mX7_columns vX7_columns lk_X7_165 (by first | assumption | exact Nat.zero_lt_one | exact Nat.zero_lt_two | exact Nat.one_lt_two) rfl rfl rfl rfl ⟨by decide, by decide, by decide, by decide⟩ (Nat.le_of_ble_eq_true rfl) (fun _ _ h => h.elim) ⟨by decide, by decide⟩ (fun r_ M_ q33 => ?_)
    obtain ⟨rfl, rfl⟩ := q33
    refine w_imul C dX7_density_36 ?_
    refine Wm.top (v' := aI ((lenR S P * colsS S : Nat) : Int)) (congrArg aI (Int.natCast_mul _ _).symm) ?_
    refine w_i2f C dX7_density_37 ?_
    have hP0 : P ≠ [] := (fun z => by rw [z] at e17; exact absurd e17 (by assumption))
    refine w_fdiv C dX7_density_38 (dnF_no hu (by omega) (Nat.mul_ne_zero (by have := len_pos hI hC hP0; omega) (by have := cols_pos hI.1; omega))) ?_
    refine w_fret C hr dX7_density_39 (⟨hRF, by first | (rw [if_pos (by omega)]; exact kT) | (rw [if_neg (by omega)]; exact kT), _, rfl, fun z => by first | rfl | (exfalso; omega)⟩) (by decide) (by decide)
  · refine w_iconst C dX7_density_8 ?_
    refine w_goto C dX7_density_9 ?_
    refine w_callV C dX7_density_13 (c_X7_failsY hl 1 (by omega)) mX7_fails vX7_fails lk_X7_129 (by first | assumption | exact Nat.zero_lt_one | exact Nat.zero_lt_two | exact Nat.one_lt_two) rfl rfl rfl rfl ⟨by decide, by decide, by decide, by decide⟩ (Nat.le_of_ble_eq_true rfl) (fun _ _ h => h.elim) ⟨by decide, by decide⟩ (fun r_ MF q13 => ?_)
    obtain ⟨kF, kT, rfl⟩ := q13
    have hRF := hR.fr kF.fr
    refine w_if_eq_n C dX7_density_16 (by omega) (by decide) ?_
    refine w_fconst C dX7_density_19 ?_
    refine w_goto C dX7_density_20 ?_
    refine w_fret C hr dX7_density_39 (⟨hRF, by first | (rw [if_pos (by omega)]; exact kT) | (rw [if_neg (by omega)]; exact kT), _, rfl, fun z => by first | rfl | (exfalso; omega)⟩) (by decide) (by decide)
theorem c_X7_meanCells (hl : l.stackTraces = false) {S : Sg} {P : List Pc} {nx : Nat} (hI : Inv S P nx) (hR : RepMo S P nx M) : Con l b0 yX7_meanCells cX7_meanCells 1 (some .double) 2 0 0 [aO 40 0] ad cntM M (fun r9 M' => RepMo S P nx M' ∧ M'.1 40 0 0 = (if P.length = 0 then 1 else 0 : Nat) ∧ ∃ v, r9 = some (aD v) ∧ (P.length ≠ 0 → v = mnD (usedS S P) P.length)) noX := by
  have e17 := hR.1.2.2.2.2.2.2.1
  have hP := hI.2.2.1
  have hu := used_le (S := S) hI.1 hP
  refine Con.of hl pl_X7 (Nat.le_of_ble_eq_true rfl) ?_
  intro D cA p e s m args below meth c C hr
  refine w_aload_n C dX7_meanCells_0 rfl ?_
  refine w_aload_n C dX7_meanCells_1 rfl ?_
  refine g_X7_112 C dX7_meanCells_2 (by first | assumption | exact Nat.zero_lt_one | exact Nat.zero_lt_two | exact Nat.one_lt_two) ?_
  refine w_if_ne C dX7_meanCells_5 (by omega) (fun h5 => ?_) (fun h5 => ?_)
  · refine w_iconst C dX7_meanCells_12 ?_
    refine w_callV C dX7_meanCells_13 (c_X7_failsN hl 0 (by omega)) mX7_fails vX7_fails lk_X7_129 (by first | assumption | exact Nat.zero_lt_one | exact Nat.zero_lt_two | exact Nat.one_lt_two) rfl rfl rfl rfl ⟨by decide, by decide, by decide, by decide⟩ (Nat.le_of_ble_eq_true rfl) (fun _ _ h => h.elim) ⟨by decide, by decide⟩ (fun r_ MF q13 => ?_)
    obtain ⟨kF, kT, rfl⟩ := q13
    have hRF := hR.fr kF.fr
    refine w_if_eq_y C dX7_meanCells_16 (by omega) (by decide) ?_
    refine w_aload_n C dX7_meanCells_23 rfl ?_
    refine w_callV C dX7_meanCells_24 (c_X7_cellsUsed hl hI hRF) mX7_cellsUsed vX7_cellsUsed lk_X7_224 (by first | assumption | exact Nat.zero_lt_one | exact Nat.zero_lt_two | exact Nat.one_lt_two) rfl rfl rfl rfl ⟨by decide, by decide, by decide, by decide⟩ (Nat.le_of_ble_eq_true rfl) (fun _ _ h => h.elim) ⟨by decide, by decide⟩ (fun r_ M_ q24 => ?_)
    obtain ⟨rfl, rfl⟩ := q24
    refine w_i2d C dX7_meanCells_27 ?_
    refine w_aload_n C dX7_meanCells_28 rfl ?_
    refine g_X7_112 C dX7_meanCells_29 (by first | assumption | exact Nat.zero_lt_one | exact Nat.zero_lt_two | exact Nat.one_lt_two) ?_
    refine Wm.top (v' := aI (P.length : Nat)) (congrArg aI hRF.1.2.2.2.2.2.2.1) ?_
    refine w_i2d C dX7_meanCells_32 ?_
    refine w_ddiv C dX7_meanCells_33 (mnD_no hu (by omega) (by omega)) ?_
    refine w_dret C hr dX7_meanCells_34 (⟨hRF, by first | (rw [if_pos (by omega)]; exact kT) | (rw [if_neg (by omega)]; exact kT), _, rfl, fun z => by first | rfl | (exfalso; omega)⟩) (by decide) (by decide)
  · refine w_iconst C dX7_meanCells_8 ?_
    refine w_goto C dX7_meanCells_9 ?_
    refine w_callV C dX7_meanCells_13 (c_X7_failsY hl 1 (by omega)) mX7_fails vX7_fails lk_X7_129 (by first | assumption | exact Nat.zero_lt_one | exact Nat.zero_lt_two | exact Nat.one_lt_two) rfl rfl rfl rfl ⟨by decide, by decide, by decide, by decide⟩ (Nat.le_of_ble_eq_true rfl) (fun _ _ h => h.elim) ⟨by decide, by decide⟩ (fun r_ MF q13 => ?_)
    obtain ⟨kF, kT, rfl⟩ := q13
    have hRF := hR.fr kF.fr
    refine w_if_eq_n C dX7_meanCells_16 (by omega) (by decide) ?_
    refine w_dconst C dX7_meanCells_19 ?_
    refine w_goto C dX7_meanCells_20 ?_
    refine w_dret C hr dX7_meanCells_34 (⟨hRF, by first | (rw [if_pos (by omega)]; exact kT) | (rw [if_neg (by omega)]; exact kT), _, rfl, fun z => by first | rfl | (exfalso; omega)⟩) (by decide) (by decide)
theorem c_X7_isSound (hl : l.stackTraces = false) {S : Sg} {P : List Pc} {nx : Nat} (hI : Inv S P nx) (hC : InvC S) (hZ : InvZ S) (hE : ∀ j, eS S j < 1000000000) (hmd : ∀ y, mdS S y < 1000000) (hnx : nx < 1000000) (hR : RepMo S P nx M) : Con l b0 yX7_isSound cX7_isSound 5 (some .boolean) 2 0 0 [aO 40 0] ad cntM M (okM (oIsSound S P nx)) noX := by
  have hu := used_le (S := S) hI.1 hI.2.2.1
  have huc := used_cnt hC (cols12 hI.1) (fun p hp => ⟨(hI.2.1.1 p hp).2.2.2.2.2.2.1, (hI.2.1.1 p hp).2.2.2.2.2.2.2⟩) hI.2.1.2.1
  have hac := all_cut hI.1 hZ
  have hcb := cut_bd hI.1 hE
  have g6 := hI.1.2.2.2.2.2.1
  have g7 := hI.1.2.2.2.2.2.2.1
  have hR0 := hR.thr (v := 0)
  have e7 := hR0.1.2.2.2.2.2.1
  have e28 := hR0.1.2.2.2.2.2.2.2.2.1
  have e32 := hR0.1.2.2.2.2.2.2.2.2.2.2
  refine Con.of hl pl_X7 (Nat.le_of_ble_eq_true rfl) ?_
  intro D cA p e s m args below meth c C hr
  have L3 : ∀ (d n : Nat), n + d = ntS S → Wm p l e (rmd 2 0 0) s m args below meth c 5 D cA b0 0 0 (vx_MQ below (mQ D cA b0 ad cntM (okM (oIsSound S P nx))) (mX D cA b0 ad cntM noX) args s 0 0 b0) 76 [(0, aO 40 0), (1, aI (usedS S P : Nat)), (2, aL ((sumN (fun i => stS S (i / 2) (i % 2)) (2 * nsS S) + sumN (fun y => mdS S y * takS S y) n : Nat) : Int)), (4, aI n)] [] ad cntM (uI M 40 0 0 0) := by
    intro d
    induction d with
    | zero =>
      intro n hn
      have en : ntS S = n := by omega
      rw [en] at hac
      refine w_iload C dX7_isSound_76 rfl ?_
      refine w_aload_n C dX7_isSound_78 rfl ?_
      refine g_X7_227 C dX7_isSound_79 (by first | assumption | exact Nat.zero_lt_one | exact Nat.zero_lt_two | exact Nat.one_lt_two) ?_
      refine w_icmp_ge C dX7_isSound_82 (by omega) (by omega) (fun h82 => ?_) (fun h82 => ?_)
      · refine w_iload_n C dX7_isSound_110 rfl ?_
        refine w_aload_n C dX7_isSound_111 rfl ?_
        refine w_callV C dX7_isSound_112 (c_X7_cellsUsed hl hI hR0) mX7_cellsUsed vX7_cellsUsed lk_X7_224 (by first | assumption | exact Nat.zero_lt_one | exact Nat.zero_lt_two | exact Nat.one_lt_two) rfl rfl rfl rfl ⟨by decide, by decide, by decide, by decide⟩ (Nat.le_of_ble_eq_true rfl) (fun _ _ h => h.elim) ⟨by decide, by decide⟩ (fun r_ M_ q112 => ?_)
        obtain ⟨rfl, rfl⟩ := q112
        refine w_icmpSame C dX7_isSound_115 ?_
        refine w_lload_n C dX7_isSound_118 rfl ?_
        refine w_aload_n C dX7_isSound_119 rfl ?_
        refine g_X7_268 C dX7_isSound_120 (by first | assumption | exact Nat.zero_lt_one | exact Nat.zero_lt_two | exact Nat.one_lt_two) ?_
        rw [hac]
        rw [e32]
        refine w_lcmp C dX7_isSound_123 (by omega) (by omega) ?_
        rw [if_neg (by omega), if_pos rfl]
        refine w_if_ne_n C dX7_isSound_124 (by decide) (by decide) ?_
        refine w_iconst C dX7_isSound_127 ?_
        refine w_goto C dX7_isSound_128 ?_
        refine w_iret C hr dX7_isSound_132 (by first | exact narrow_z (b2_01 _) | exact narrow_z (by omega)) (okM_of (v := 1) rfl rfl rfl hR0) (by decide) (by decide)
      · omega
    | succ d ih =>
      intro n hn
      have c62 := hR0.2.2.2.2.2.2 n (by omega)
      have hm := hmd n
      have ht := tak_le hI.1 n
      refine w_iload C dX7_isSound_76 rfl ?_
      refine w_aload_n C dX7_isSound_78 rfl ?_
      refine g_X7_227 C dX7_isSound_79 (by first | assumption | exact Nat.zero_lt_one | exact Nat.zero_lt_two | exact Nat.one_lt_two) ?_
      refine w_icmp_ge C dX7_isSound_82 (by omega) (by omega) (fun h82 => ?_) (fun h82 => ?_)
      · omega
      · refine w_lload_n C dX7_isSound_85 rfl ?_
        refine w_aload_n C dX7_isSound_86 rfl ?_
        refine g_X7_76 C dX7_isSound_87 (by first | assumption | exact Nat.zero_lt_one | exact Nat.zero_lt_two | exact Nat.one_lt_two) ?_
        refine w_iload C dX7_isSound_90 rfl ?_
        refine w_ialdN (j := n) C dX7_isSound_92 (by first | assumption | exact Nat.zero_lt_one | exact Nat.zero_lt_two | exact Nat.one_lt_two) IA_62 (by omega) (by omega) ?_
        rw [c62]
        refine w_i2l C dX7_isSound_93 (by omega) ?_
        refine w_aload_n C dX7_isSound_94 rfl ?_
        refine w_iload C dX7_isSound_95 rfl ?_
        refine w_callV C dX7_isSound_97 (c_X7_takenBy hl hI.1 hR0 n (by omega)) mX7_takenBy vX7_takenBy lk_X7_233 (by first | assumption | exact Nat.zero_lt_one | exact Nat.zero_lt_two | exact Nat.one_lt_two) rfl rfl rfl rfl ⟨by decide, by decide, by decide, by decide⟩ (Nat.le_of_ble_eq_true rfl) (fun _ _ h => h.elim) ⟨by decide, by decide⟩ (fun r_ M_ q97 => ?_)
        obtain ⟨rfl, rfl⟩ := q97
        refine w_i2l C dX7_isSound_100 (by omega) ?_
        refine w_lmul C dX7_isSound_101 ?_
        refine w_ladd C dX7_isSound_102 ?_
        refine w_lstore_n C dX7_isSound_103 (by decide) ?_
        refine w_iinc C dX7_isSound_104 rfl (by decide) ?_
        refine w_goto C dX7_isSound_107 ?_
        exact Wm.lsub (lv' := [(0, aO 40 0), (1, aI (usedS S P : Nat)), (2, aL ((sumN (fun i => stS S (i / 2) (i % 2)) (2 * nsS S) + sumN (fun y => mdS S y * takS S y) (n + 1) : Nat) : Int)), (4, aI ((n + 1 : Nat) : Int))]) ⟨rfl, rfl, congrArg (fun z : Int => some (aL z)) (by show _ = ((_ + (sumN _ n + mdS S n * takS S n) : Nat) : Int); rw [Int.natCast_add, Int.natCast_add, Int.natCast_add, Int.natCast_mul]; omega), rfl, trivial⟩ (ih (n + 1) (by omega))
  have L2 : ∀ (d n : Nat), n + d = 2 * nsS S → Wm p l e (rmd 2 0 0) s m args below meth c 5 D cA b0 0 0 (vx_MQ below (mQ D cA b0 ad cntM (okM (oIsSound S P nx))) (mX D cA b0 ad cntM noX) args s 0 0 b0) 45 [(0, aO 40 0), (1, aI (usedS S P : Nat)), (2, aL ((sumN (fun i => stS S (i / 2) (i % 2)) n : Nat) : Int)), (4, aI n)] [] ad cntM (uI M 40 0 0 0) := by
    intro d
    induction d with
    | zero =>
      intro n hn
      have en : 2 * nsS S = n := by omega
      refine w_iload C dX7_isSound_45 rfl ?_
      refine w_iconst C dX7_isSound_47 ?_
      refine w_aload_n C dX7_isSound_48 rfl ?_
      refine g_X7_143 C dX7_isSound_49 (by first | assumption | exact Nat.zero_lt_one | exact Nat.zero_lt_two | exact Nat.one_lt_two) ?_
      refine w_imul C dX7_isSound_52 ?_
      refine w_icmp_ge C dX7_isSound_53 (by omega) (by omega) (fun h53 => ?_) (fun h53 => ?_)
      · refine w_iconst C dX7_isSound_73 ?_
        refine w_istore C dX7_isSound_74 (by decide) ?_
        exact Wm.lsub (lv' := [(0, aO 40 0), (1, aI (usedS S P : Nat)), (2, aL ((sumN (fun i => stS S (i / 2) (i % 2)) (2 * nsS S) + sumN (fun y => mdS S y * takS S y) 0 : Nat) : Int)), (4, aI ((0 : Nat) : Int))]) ⟨rfl, rfl, by rw [en]; rfl, rfl, trivial⟩ (L3 (ntS S) 0 (by omega))
      · omega
    | succ d ih =>
      intro n hn
      have c52 := hR0.stk n (by omega)
      have hsb : stS S (n / 2) (n % 2) ≤ 9999 := by
        have h := (hI.1.2.2.2.2.2.2.2.2.2.1 (n / 2)).2.2.2.2.2.2
        rcases (show n % 2 = 0 ∨ n % 2 = 1 by omega) with q | q
        · rw [q]; exact h.1
        · rw [q]; exact h.2.1
      refine w_iload C dX7_isSound_45 rfl ?_
      refine w_iconst C dX7_isSound_47 ?_
      refine w_aload_n C dX7_isSound_48 rfl ?_
      refine g_X7_143 C dX7_isSound_49 (by first | assumption | exact Nat.zero_lt_one | exact Nat.zero_lt_two | exact Nat.one_lt_two) ?_
      refine w_imul C dX7_isSound_52 ?_
      refine w_icmp_ge C dX7_isSound_53 (by omega) (by omega) (fun h53 => ?_) (fun h53 => ?_)
      · omega
      · refine w_lload_n C dX7_isSound_56 rfl ?_
        refine w_aload_n C dX7_isSound_57 rfl ?_
        refine g_X7_43 C dX7_isSound_58 (by first | assumption | exact Nat.zero_lt_one | exact Nat.zero_lt_two | exact Nat.one_lt_two) ?_
        refine w_iload C dX7_isSound_61 rfl ?_
        refine w_ialdN (j := n) C dX7_isSound_63 (by first | assumption | exact Nat.zero_lt_one | exact Nat.zero_lt_two | exact Nat.one_lt_two) IA_52 (by omega) (by omega) ?_
        rw [c52]
        refine w_i2l C dX7_isSound_64 (by omega) ?_
        refine w_ladd C dX7_isSound_65 ?_
        refine w_lstore_n C dX7_isSound_66 (by decide) ?_
        refine w_iinc C dX7_isSound_67 rfl (by decide) ?_
        refine w_goto C dX7_isSound_70 ?_
        exact Wm.lsub (lv' := [(0, aO 40 0), (1, aI (usedS S P : Nat)), (2, aL ((sumN (fun i => stS S (i / 2) (i % 2)) (n + 1) : Nat) : Int)), (4, aI ((n + 1 : Nat) : Int))]) ⟨rfl, rfl, rfl, rfl, trivial⟩ (ih (n + 1) (by omega))
  have L1 : ∀ (d n : Nat), n + d = 720 → Wm p l e (rmd 2 0 0) s m args below meth c 5 D cA b0 0 0 (vx_MQ below (mQ D cA b0 ad cntM (okM (oIsSound S P nx))) (mX D cA b0 ad cntM noX) args s 0 0 b0) 9 [(0, aO 40 0), (1, aI ((List.range n).countP (fun k => decide (clo S P k ≠ -1)) : Nat)), (2, aI n)] [] ad cntM (uI M 40 0 0 0) := by
    intro d
    induction d with
    | zero =>
      intro n hn
      have en : n = 720 := by omega
      subst en
      rw [huc]
      refine w_iload_n C dX7_isSound_9 rfl ?_
      refine w_sipush (v := 720) C dX7_isSound_10 rfl ?_
      refine w_icmp_ge C dX7_isSound_13 (by omega) (by omega) (fun h13 => ?_) (fun h13 => ?_)
      · refine w_lconst C dX7_isSound_40 ?_
        refine w_lstore_n C dX7_isSound_41 (by decide) ?_
        refine w_iconst C dX7_isSound_42 ?_
        refine w_istore C dX7_isSound_43 (by decide) ?_
        exact Wm.lsub (lv' := [(0, aO 40 0), (1, aI (usedS S P : Nat)), (2, aL ((sumN (fun i => stS S (i / 2) (i % 2)) 0 : Nat) : Int)), (4, aI ((0 : Nat) : Int))]) ⟨rfl, rfl, rfl, rfl, trivial⟩ (L2 (2 * nsS S) 0 (by omega))
      · omega
    | succ d ih =>
      intro n hn
      have c58 := hR0.2.2.2.2.1.2.1 n (by omega)
      have hbd := clo_bd hI hnx n
      refine w_iload_n C dX7_isSound_9 rfl ?_
      refine w_sipush (v := 720) C dX7_isSound_10 rfl ?_
      refine w_icmp_ge C dX7_isSound_13 (by omega) (by omega) (fun h13 => ?_) (fun h13 => ?_)
      · omega
      · refine w_iload_n C dX7_isSound_16 rfl ?_
        refine w_aload_n C dX7_isSound_17 rfl ?_
        refine g_X7_64 C dX7_isSound_18 (by first | assumption | exact Nat.zero_lt_one | exact Nat.zero_lt_two | exact Nat.one_lt_two) ?_
        refine w_iload_n C dX7_isSound_21 rfl ?_
        refine w_ialdN (j := n) C dX7_isSound_22 (by first | assumption | exact Nat.zero_lt_one | exact Nat.zero_lt_two | exact Nat.one_lt_two) IA_58 (by omega) (by omega) ?_
        rw [c58]
        refine w_iconst C dX7_isSound_23 ?_
        refine w_icmp_ne C dX7_isSound_24 (by omega) (by omega) (fun h24 => ?_) (fun h24 => ?_)
        · refine w_iconst C dX7_isSound_31 ?_
          refine w_iadd C dX7_isSound_32 ?_
          refine w_istore_n C dX7_isSound_33 (by decide) ?_
          refine w_iinc C dX7_isSound_34 rfl (by decide) ?_
          refine w_goto C dX7_isSound_37 ?_
          refine Wm.lsub (lv' := [(0, aO 40 0), (1, aI ((List.range (n + 1)).countP (fun k => decide (clo S P k ≠ -1)) : Nat)), (2, aI ((n + 1 : Nat) : Int))]) ⟨rfl, congrArg (fun z : Int => some (aI z)) ?_, rfl, trivial⟩ (ih (n + 1) (by omega))
          rw [List.range_succ, List.countP_append, List.countP_singleton]
          first | (rw [if_pos (decide_eq_true (by omega))]; omega) | (rw [if_neg (fun z => by have := of_decide_eq_true z; omega)]; omega)
        · refine w_iconst C dX7_isSound_27 ?_
          refine w_goto C dX7_isSound_28 ?_
          refine w_iadd C dX7_isSound_32 ?_
          refine w_istore_n C dX7_isSound_33 (by decide) ?_
          refine w_iinc C dX7_isSound_34 rfl (by decide) ?_
          refine w_goto C dX7_isSound_37 ?_
          refine Wm.lsub (lv' := [(0, aO 40 0), (1, aI ((List.range (n + 1)).countP (fun k => decide (clo S P k ≠ -1)) : Nat)), (2, aI ((n + 1 : Nat) : Int))]) ⟨rfl, congrArg (fun z : Int => some (aI z)) ?_, rfl, trivial⟩ (ih (n + 1) (by omega))
          rw [List.range_succ, List.countP_append, List.countP_singleton]
          first | (rw [if_pos (decide_eq_true (by omega))]; omega) | (rw [if_neg (fun z => by have := of_decide_eq_true z; omega)]; omega)
  refine w_aload_n C dX7_isSound_0 rfl ?_
  refine w_iconst C dX7_isSound_1 ?_
  refine p_X7_109 C dX7_isSound_2 (by first | assumption | exact Nat.zero_lt_one | exact Nat.zero_lt_two | exact Nat.one_lt_two) ?_
  refine w_iconst C dX7_isSound_5 ?_
  refine w_istore_n C dX7_isSound_6 (by decide) ?_
  refine w_iconst C dX7_isSound_7 ?_
  refine w_istore_n C dX7_isSound_8 (by decide) ?_
  exact Wm.lsub (lv' := [(0, aO 40 0), (1, aI ((List.range 0).countP (fun k => decide (clo S P k ≠ -1)) : Nat)), (2, aI ((0 : Nat) : Int))]) ⟨rfl, rfl, rfl, trivial⟩ (L1 720 0 (by omega))
end Mo
