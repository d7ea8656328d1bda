/-! Shape: its drawing and its mark -/
def shK (j : Nat) : Nat → Nat → Prop := fun k i => ((k = 4 ∨ k = 30) ∧ i = j) ∨ ((k = 5 ∨ k = 31) ∧ i / 8 = j)
def ouK (j : Nat) : Nat → Nat → Prop := fun k i => (k = 5 ∨ k = 31) ∧ i / 8 = j
theorem eS_up (S : Sg) (f i k v : Nat) (h : f ≠ 8 ∧ f ≠ 14 ∧ f ≠ 16 ∧ f ≠ 17) (j : Nat) : eS (up3 S f i k v) j = eS S j := by
  obtain ⟨h1, h2, h3, h4⟩ := h
  simp [eS, garS, pppS, sumN, up3, Ne.symm h1, Ne.symm h2, Ne.symm h3, Ne.symm h4]
/-- what stands of an outline whatever is drawn -/
def OuFix (j : Nat) (M : Mem) : Prop := ∀ o, o < 8 → M.2.1 13 j o = some (8 * j + o) ∧ M.1 5 (8 * j + o) 0 = (o % 4 : Nat) ∧ M.1 5 (8 * j + o) 1 = (o / 4 : Nat)
section Sh
variable {l : Launch} {b0 : Nat → Prop} {ad : Ads} {ns nt : Nat} {M : Mem}
theorem c_X4_traceAll (hl : l.stackTraces = false) {j u v : Nat} (hj : j < ns) (hu : u < 5) (hv : v < 5) {d : Nat → Bool} (hd : ∀ r, r < 5 → M.1 30 j r = (bitsN (fun i => d (5 * r + i)) 5 : Nat)) (hmr : M.1 4 j 6 = u) (hmc : M.1 4 j 7 = v) (hf : OuFix j M) : Con l b0 yX4_traceAll cX4_traceAll 3 none 4 0 0 [aO 4 j] ad (cnt ns nt) M (fun r9 M' => Fr (ouK j) M M' ∧ OuFix j M' ∧ (∀ o, o < 8 → OuOK d (o % 4) (o / 4) u v (8 * j + o) M') ∧ r9 = none) noX := by
  have i4 : inD (cnt ns nt) 4 j := hj
  have i13 : inD (cnt ns nt) 13 j := hj
  have i30 : inD (cnt ns nt) 30 j := hj
  refine Con.of hl pl_X4 (Nat.le_of_ble_eq_true rfl) ?_
  intro D cA p e s m args below meth c C hr
  have loop : ∀ (b n : Nat) (M1 : Mem), n + b = 8 → Fr (ouK j) M M1 → OuFix j M1 → (∀ o, o < n → OuOK d (o % 4) (o / 4) u v (8 * j + o) M1) → Wm p l e (rmd 4 0 0) s m args below meth c 3 D cA b0 0 0 (vx_MQ below (mQ D cA b0 ad (cnt ns nt) (fun r9 M' => Fr (ouK j) M M' ∧ OuFix j M' ∧ (∀ o, o < 8 → OuOK d (o % 4) (o / 4) u v (8 * j + o) M') ∧ r9 = none)) (mX D cA b0 ad (cnt ns nt) noX) args s 0 0 b0) 2 [(0, aO 4 j), (1, aI n)] [] ad (cnt ns nt) M1 := by
    intro b
    induction b with
    | zero =>
      intro n M1 hn hF hx ho
      refine w_iload_n C dX4_traceAll_2 rfl ?_
      refine w_aload_n C dX4_traceAll_3 rfl ?_
      refine g_X4_29 C dX4_traceAll_4 (by first | assumption | exact Nat.zero_lt_one | exact Nat.zero_lt_two | exact Nat.one_lt_two) ?_
      refine w_alen C dX4_traceAll_7 i13 (Or.inr (Or.inr (Or.inr ⟨8, 5, by decide, RA_13⟩))) ?_
      refine w_icmp_ge C dX4_traceAll_8 (by omega) (by omega) (fun h8 => ?_) (fun h8 => ?_)
      · refine w_vret C hr dX4_traceAll_44 (⟨hF, hx, fun o h => ho o (by omega), rfl⟩) (by decide) (by decide)
      · omega
    | succ b ih =>
      intro n M1 hn hF hx ho
      obtain ⟨x1, x2, x3⟩ := hx n (by omega)
      have f30 := (hF 30 j (fun q => by rcases q.1 with h | h <;> exact absurd h (by decide))).1
      have f4 := (hF 4 j (fun q => by rcases q.1 with h | h <;> exact absurd h (by decide))).1
      have i5 : inD (cnt ns nt) 5 (8 * j + n) := by show 8 * j + n < 8 * ns; omega
      have i31 : inD (cnt ns nt) 31 (8 * j + n) := by show 8 * j + n < 8 * ns; omega
      refine w_iload_n C dX4_traceAll_2 rfl ?_
      refine w_aload_n C dX4_traceAll_3 rfl ?_
      refine g_X4_29 C dX4_traceAll_4 (by first | assumption | exact Nat.zero_lt_one | exact Nat.zero_lt_two | exact Nat.one_lt_two) ?_
      refine w_alen C dX4_traceAll_7 i13 (Or.inr (Or.inr (Or.inr ⟨8, 5, by decide, RA_13⟩))) ?_
      refine w_icmp_ge C dX4_traceAll_8 (by omega) (by omega) (fun h8 => ?_) (fun h8 => ?_)
      · omega
      · refine w_aload_n C dX4_traceAll_11 rfl ?_
        refine g_X4_29 C dX4_traceAll_12 (by first | assumption | exact Nat.zero_lt_one | exact Nat.zero_lt_two | exact Nat.one_lt_two) ?_
        refine w_iload_n C dX4_traceAll_15 rfl ?_
        refine w_aald C dX4_traceAll_16 i13 RA_13 rfl (by omega) ?_
        rw [Int.toNat_natCast, x1]
        refine Wm.top (v' := aO 5 (8 * j + n)) rfl ?_
        refine w_astore_n C dX4_traceAll_17 (by decide) ?_
        refine w_aload_n C dX4_traceAll_18 rfl ?_
        refine w_ifnull C dX4_traceAll_19 (fun h19 => ?_) (fun h19 => ?_)
        · cases h19
        · refine w_aload_n C dX4_traceAll_22 rfl ?_
          refine w_aload_n C dX4_traceAll_23 rfl ?_
          refine g_X4_19 C dX4_traceAll_24 (by first | assumption | exact Nat.zero_lt_one | exact Nat.zero_lt_two | exact Nat.one_lt_two) ?_
          refine w_aload_n C dX4_traceAll_27 rfl ?_
          refine g_X4_54 C dX4_traceAll_28 (by first | assumption | exact Nat.zero_lt_one | exact Nat.zero_lt_two | exact Nat.one_lt_two) ?_
          refine w_aload_n C dX4_traceAll_31 rfl ?_
          refine g_X4_57 C dX4_traceAll_32 (by first | assumption | exact Nat.zero_lt_one | exact Nat.zero_lt_two | exact Nat.one_lt_two) ?_
          refine Wm.top (v' := aI v) (by rw [f4, hmc]) ?_
          have K : Wm p l e (rmd 4 0 0) s m args below meth c 3 D cA b0 0 0 (vx_MQ below (mQ D cA b0 ad (cnt ns nt) (fun r9 M' => Fr (ouK j) M M' ∧ OuFix j M' ∧ (∀ o, o < 8 → OuOK d (o % 4) (o / 4) u v (8 * j + o) M') ∧ r9 = none)) (mX D cA b0 ad (cnt ns nt) noX) args s 0 0 b0) 35 (lset (lset [(0, aO 4 j), (1, aI n)] 2 (aO 5 (8 * j + n))) 2 (aO 5 (8 * j + n))) [aI v, aI u, aO 30 j, aO 5 (8 * j + n)] ad (cnt ns nt) M1 := by
            refine w_callV C dX4_traceAll_35 (c_X2_trace hl i5 i31 i30 x2 x3 (by omega) (by omega) (d := d) (fun r hr => by rw [f30]; exact hd r hr) u v hu hv) mX2_trace vX2_trace lk_X4_60 (by first | assumption | exact Nat.zero_lt_one | exact Nat.zero_lt_two | exact Nat.one_lt_two) rfl rfl rfl rfl ⟨by decide, by decide, by decide, by decide⟩ (Nat.le_of_ble_eq_true rfl) (fun _ _ h => h.elim) ⟨by decide, by decide⟩ (fun r_ M_ q35 => ?_)
            obtain ⟨k1, k2, k3, k4, rfl⟩ := q35
            have hF2 : Fr (ouK j) M M_ := hF.tr (k1.mono (fun k i q => ⟨q.1.symm, by rw [q.2]; omega⟩))
            have hx2 : OuFix j M_ := fun o ho8 => by
              have k13 := (k1 13 j (fun q => by rcases q.1 with h | h <;> exact absurd h (by decide))).2.1
              refine ⟨by rw [k13]; exact (hx o ho8).1, ?_⟩
              by_cases h : o = n
              · rw [h]; exact ⟨k2, k3⟩
              · have k5 := (k1 5 (8 * j + o) (fun q => by have := q.2; omega)).1
                rw [k5]; exact (hx o ho8).2
            refine w_iinc C dX4_traceAll_38 rfl (by decide) ?_
            refine w_goto C dX4_traceAll_41 ?_
            refine Wm.lsub (lv' := [(0, aO 4 j), (1, aI ((n + 1 : Nat) : Int))]) ⟨rfl, rfl, trivial⟩ (ih (n + 1) _ (by omega) hF2 hx2 (fun o h => ?_))
            by_cases hq : o = n
            · rw [hq]; exact k4
            · obtain ⟨a1, a2, a3, a4⟩ := ho o (by omega)
              have k5 := (k1 5 (8 * j + o) (fun q => by have := q.2; omega)).1
              have k31 := (k1 31 (8 * j + o) (fun q => by have := q.2; omega)).1
              exact ⟨fun r hr => by rw [k31]; exact a1 r hr, by rw [k5]; exact a2, by rw [k5]; exact a3, by rw [k5]; exact a4⟩
          have e1 : M1.1 4 j 6 = (u : Int) := by rw [f4, hmr]
          rw [e1]
          exact Wm.lsub (lv' := (lset (lset [(0, aO 4 j), (1, aI n)] 2 (aO 5 (8 * j + n))) 2 (aO 5 (8 * j + n)))) ⟨rfl, rfl, rfl, trivial⟩ K
  refine w_iconst C dX4_traceAll_0 ?_
  refine w_istore_n C dX4_traceAll_1 (by decide) ?_
  exact Wm.lsub (lv' := [(0, aO 4 j), (1, aI ((0 : Nat) : Int))]) ⟨rfl, rfl, trivial⟩ (loop 8 0 M rfl Fr.rf hf (fun o h => absurd h (Nat.not_lt_zero o)))
theorem c_X4_mark (hl : l.stackTraces = false) {S : Sg} {j : Nat} (hj : j < ns) (h1 : RepS1 S j M) (h2 : RepS2 S j M) (hf : OuFix j M) (g u v : Nat) (hg : g ≤ 4) (hu : u < 5) (hv : v < 5) : Con l b0 yX4_mark cX4_mark 4 none 5 0 0 [aO 4 j, aI ((g : Int) - 1), aI u, aI v] ad (cnt ns nt) M (fun r9 M' => Fr (shK j) M M' ∧ RepS1 (up3 (up3 (up3 S 11 j 0 g) 12 j 0 u) 13 j 0 v) j M' ∧ RepS2 (up3 (up3 (up3 S 11 j 0 g) 12 j 0 u) 13 j 0 v) j M' ∧ (∀ o, o < 8 → M'.2.1 13 j o = some (8 * j + o) ∧ RepOu (up3 (up3 (up3 S 11 j 0 g) 12 j 0 u) 13 j 0 v) j o M') ∧ r9 = none) noX := by
  have i4 : inD (cnt ns nt) 4 j := hj
  obtain ⟨a1, a2, a3, a4, a5, a6, a7, a8⟩ := h1
  obtain ⟨b1, b2', b3⟩ := h2
  have hd7 : ∀ r, r < 5 → M.1 30 j r = (bitsN (fun i => dB S j (5 * r + i)) 5 : Nat) := a7
  refine Con.of hl pl_X4 (Nat.le_of_ble_eq_true rfl) ?_
  intro D cA p e s m args below meth c C hr
  refine w_aload_n C dX4_mark_0 rfl ?_
  refine w_iload_n C dX4_mark_1 rfl ?_
  refine p_X4_23 C dX4_mark_2 (by first | assumption | exact Nat.zero_lt_one | exact Nat.zero_lt_two | exact Nat.one_lt_two) ?_
  refine w_aload_n C dX4_mark_5 rfl ?_
  refine w_iload_n C dX4_mark_6 rfl ?_
  refine p_X4_54 C dX4_mark_7 (by first | assumption | exact Nat.zero_lt_one | exact Nat.zero_lt_two | exact Nat.one_lt_two) ?_
  refine w_aload_n C dX4_mark_10 rfl ?_
  refine w_iload_n C dX4_mark_11 rfl ?_
  refine p_X4_57 C dX4_mark_12 (by first | assumption | exact Nat.zero_lt_one | exact Nat.zero_lt_two | exact Nat.one_lt_two) ?_
  refine w_aload_n C dX4_mark_15 rfl ?_
  have hf1 : OuFix j (uI (uI (uI M 4 j 5 ((g : Int) - 1)) 4 j 6 u) 4 j 7 v) := hf
  refine w_callV C dX4_mark_16 (c_X4_traceAll hl hj hu hv (d := dB S j) hd7 (by rw [uI_get, if_neg (by simp), uI_get, if_pos ⟨rfl, rfl, rfl⟩]) (by rw [uI_get, if_pos ⟨rfl, rfl, rfl⟩]) hf1) mX4_traceAll vX4_traceAll lk_X4_51 (by first | assumption | exact Nat.zero_lt_one | exact Nat.zero_lt_two | exact Nat.one_lt_two) rfl rfl rfl rfl ⟨by decide, by decide, by decide, by decide⟩ (Nat.le_of_ble_eq_true rfl) (fun _ _ h => h.elim) ⟨by decide, by decide⟩ (fun r_ M_ q16 => ?_)
  obtain ⟨k1, k2, k3, rfl⟩ := q16
  have f4 := (k1 4 j (fun q => by rcases q.1 with h | h <;> exact absurd h (by decide)))
  have f30 := (k1 30 j (fun q => by rcases q.1 with h | h <;> exact absurd h (by decide))).1
  have edB : dB (up3 (up3 (up3 S 11 j 0 g) 12 j 0 u) 13 j 0 v) j = dB S j := by funext k; simp [dB, up3]
  refine w_vret C hr dX4_mark_19 (⟨((((Fr.rf.uI (Or.inl ⟨Or.inl rfl, rfl⟩)).uI (Or.inl ⟨Or.inl rfl, rfl⟩)).uI (Or.inl ⟨Or.inl rfl, rfl⟩)).tr (k1.mono (fun k i q => Or.inr q))), ⟨?_, ?_, ?_, ?_, ?_, ?_, fun r hr => ?_, ?_⟩, ⟨?_, ?_, ?_⟩, fun o ho => ⟨(k2 o ho).1, (k2 o ho).2.1, (k2 o ho).2.2, fun hz => ?_⟩, rfl⟩) (by decide) (by decide)
  · rw [f4.1]; simp [uI_get, up3, a1]
  · rw [f4.1]; simp [uI_get, up3, a2]
  · rw [f4.1]; simp [uI_get, up3, a3]
  · rw [f4.1]; simp [uI_get, up3]
  · rw [f4.1]; simp [uI_get, up3]
  · rw [f4.1]; simp [uI_get, up3]
  · rw [f30, edB]; exact hd7 r hr
  · rw [edB]; exact a8
  · rw [f4.1]; simp [uI_get, up3, b1]
  · rw [f4.1]; simp [uI_get, up3, b2']
  · rw [f4.2.2.1, eS_up _ _ _ _ _ (by decide), eS_up _ _ _ _ _ (by decide), eS_up _ _ _ _ _ (by decide)]; exact b3
  · obtain ⟨c1, c2, c3, c4⟩ := k3 o ho
    rw [edB]
    refine ⟨c1, c2, c3, ?_⟩
    rw [c4]
    simp [mkR, up3, edB]
theorem c_X4_draw (hl : l.stackTraces = false) {S : Sg} {j : Nat} (hG : GInv S) (hj : j < ns) (h1 : RepS1 S j M) (h2 : RepS2 S j M) (hf : OuFix j M) (u v : Nat) (hu : u < 5) (hv : v < 5) (hn : drS S j (5 * u + v) = 0) : Con l b0 yX4_draw cX4_draw 3 none 5 0 0 [aO 4 j, aI u, aI v] ad (cnt ns nt) M (fun r9 M' => Fr (shK j) M M' ∧ RepS1 (up3 (up3 S 9 j (5 * u + v) 1) 10 j 0 (szS S j + 1)) j M' ∧ RepS2 (up3 (up3 S 9 j (5 * u + v) 1) 10 j 0 (szS S j + 1)) j M' ∧ (∀ o, o < 8 → M'.2.1 13 j o = some (8 * j + o) ∧ RepOu (up3 (up3 S 9 j (5 * u + v) 1) 10 j 0 (szS S j + 1)) j o M') ∧ r9 = none) noX := by
  have i4 : inD (cnt ns nt) 4 j := hj
  have i30 : inD (cnt ns nt) 30 j := hj
  obtain ⟨a1, a2, a3, a4, a5, a6, a7, a8⟩ := h1
  obtain ⟨b1, b2', b3⟩ := h2
  have hGj := hG.2.2.2.2.2.2.2.2.2.1 j
  obtain ⟨p1, p2, p3, p4, p5, p6, p7, p8, p9⟩ := hGj
  have hd7 : ∀ r, r < 5 → M.1 30 j r = (bitsN (fun i => dB S j (5 * r + i)) 5 : Nat) := a7
  have edB : ∀ k, dB (up3 (up3 S 9 j (5 * u + v) 1) 10 j 0 (szS S j + 1)) j k = (dB S j k || (5 * u + v == k)) := by
    intro k
    simp only [dB, drS, up3]
    by_cases h : k = 5 * u + v
    · subst h; simp
    · have h9 : ¬ 5 * u + v = k := fun q => h q.symm
      simp [h, h9]
  refine Con.of hl pl_X4 (Nat.le_of_ble_eq_true rfl) ?_
  intro D cA p e s m args below meth c C hr
  refine w_aload_n C dX4_draw_0 rfl ?_
  refine g_X4_19 C dX4_draw_1 (by first | assumption | exact Nat.zero_lt_one | exact Nat.zero_lt_two | exact Nat.one_lt_two) ?_
  refine w_iload_n C dX4_draw_4 rfl ?_
  refine w_aload_n C dX4_draw_5 rfl ?_
  refine g_X4_19 C dX4_draw_6 (by first | assumption | exact Nat.zero_lt_one | exact Nat.zero_lt_two | exact Nat.one_lt_two) ?_
  refine w_iload_n C dX4_draw_9 rfl ?_
  refine w_callN C dX4_draw_10 (c_X6_entry hl IA_30 i30 u (by omega)) mX6_entry sX6_entry lk_X4_36 rfl rfl ⟨by decide, by decide, by decide, by decide⟩ (Nat.le_of_ble_eq_true rfl) (fun _ _ h => h.elim) ⟨by decide, by decide⟩ (fun r_ M_ q10 => ?_)
  obtain ⟨rfl, rfl⟩ := q10
  rw [rd_ok hu, hd7 u hu]
  refine w_iconst C dX4_draw_13 ?_
  refine w_iload_n C dX4_draw_14 rfl ?_
  have p10 : 1 * 2 ^ v ≤ 2 ^ 4 := by rw [Nat.one_mul]; exact Nat.pow_le_pow_right (by decide) (by omega)
  refine w_ishl (x := 1) C dX4_draw_15 (by omega) ?_
  refine w_ior C dX4_draw_16 (Nat.lt_trans bits5 (by decide)) (by omega) ?_
  have eo : bitsN (fun i => dB S j (5 * u + i)) 5 ||| 1 * 2 ^ v = bitsN (fun i => dB (up3 (up3 S 9 j (5 * u + v) 1) 10 j 0 (szS S j + 1)) j (5 * u + i)) 5 := bits_or hv fun i _ => by
    rw [edB]
    congr 1
    rw [Bool.eq_iff_iff, beq_iff_eq, beq_iff_eq]
    omega
  rw [eo]
  refine w_callN C dX4_draw_17 (c_X6_store hl IA_30 i30 u _ (by omega)) mX6_store sX6_store lk_X4_44 rfl rfl ⟨by decide, by decide, by decide, by decide⟩ (Nat.le_of_ble_eq_true rfl) (fun _ _ h => h.elim) ⟨by decide, by decide⟩ (fun r_ M_ q17 => ?_)
  obtain ⟨q17, rfl⟩ := q17
  rw [wr_ok hu] at q17
  subst q17
  refine w_aload_n C dX4_draw_20 rfl ?_
  refine w_dup C dX4_draw_21 rfl ?_
  refine g_X4_48 C dX4_draw_22 (by first | assumption | exact Nat.zero_lt_one | exact Nat.zero_lt_two | exact Nat.one_lt_two) ?_
  refine w_iconst C dX4_draw_25 ?_
  refine w_iadd C dX4_draw_26 ?_
  refine p_X4_48 C dX4_draw_27 (by first | assumption | exact Nat.zero_lt_one | exact Nat.zero_lt_two | exact Nat.one_lt_two) ?_
  refine w_aload_n C dX4_draw_30 rfl ?_
  have hf1 : OuFix j (uI (uI M_ 30 j u ((bitsN (fun i => dB (up3 (up3 S 9 j (5 * u + v) 1) 10 j 0 (szS S j + 1)) j (5 * u + i)) 5 : Nat) : Int)) 4 j 4 (M_.1 4 j 4 + 1)) := hf
  have hd8 : ∀ r, r < 5 → (uI (uI M_ 30 j u ((bitsN (fun i => dB (up3 (up3 S 9 j (5 * u + v) 1) 10 j 0 (szS S j + 1)) j (5 * u + i)) 5 : Nat) : Int)) 4 j 4 ((uI M_ 30 j u ((bitsN (fun i => dB (up3 (up3 S 9 j (5 * u + v) 1) 10 j 0 (szS S j + 1)) j (5 * u + i)) 5 : Nat) : Int)).1 4 j 4 + 1)).1 30 j r = (bitsN (fun i => dB (up3 (up3 S 9 j (5 * u + v) 1) 10 j 0 (szS S j + 1)) j (5 * r + i)) 5 : Nat) := fun r hr => by
    rw [uI_get, if_neg (by simp), uI_get]
    by_cases hq : r = u
    · rw [if_pos ⟨rfl, rfl, hq⟩, hq]
    · rw [if_neg (fun q => hq q.2.2), hd7 r hr]
      refine congrArg (fun z : Nat => (z : Int)) (bitsN_cg fun i hi => ?_)
      rw [edB, beq_eq_false_iff_ne.mpr (show 5 * u + v ≠ 5 * r + i by omega), Bool.or_false]
  refine w_callV C dX4_draw_31 (c_X4_traceAll hl hj (u := mrS S j) (v := mcS S j) (by omega) (by omega) (d := dB (up3 (up3 S 9 j (5 * u + v) 1) 10 j 0 (szS S j + 1)) j) hd8 (by rw [uI_get, if_neg (by simp), uI_get, if_neg (by simp)]; exact a5) (by rw [uI_get, if_neg (by simp), uI_get, if_neg (by simp)]; exact a6) hf1) mX4_traceAll vX4_traceAll lk_X4_51 (by first | assumption | exact Nat.zero_lt_one | exact Nat.zero_lt_two | exact Nat.one_lt_two) rfl rfl rfl rfl ⟨by decide, by decide, by decide, by decide⟩ (Nat.le_of_ble_eq_true rfl) (fun _ _ h => h.elim) ⟨by decide, by decide⟩ (fun r_ M_ q31 => ?_)
  obtain ⟨k1, k2, k3, rfl⟩ := q31
  have f4 := (k1 4 j (fun q => by rcases q.1 with h | h <;> exact absurd h (by decide)))
  have f30 := (k1 30 j (fun q => by rcases q.1 with h | h <;> exact absurd h (by decide))).1
  refine w_vret C hr dX4_draw_34 (⟨(((Fr.rf.uI (Or.inl ⟨Or.inr rfl, rfl⟩)).uI (Or.inl ⟨Or.inl rfl, rfl⟩)).tr (k1.mono (fun k i q => Or.inr q))), ⟨?_, ?_, ?_, ?_, ?_, ?_, fun r hr => ?_, ?_⟩, ⟨?_, ?_, ?_⟩, fun o ho => ⟨(k2 o ho).1, (k2 o ho).2.1, (k2 o ho).2.2, fun hz => k3 o ho⟩, rfl⟩) (by decide) (by decide)
  · rw [f4.1]; simp [uI_get, up3, a1]
  · rw [f4.1]; simp [uI_get, up3, a2]
  · rw [f4.1]; simp [uI_get, up3, a3]
  · rw [f4.1]; simp [uI_get, up3, a4]
  · rw [f4.1]; simp [uI_get, up3, a5]
  · rw [f4.1]; simp [uI_get, up3, a6]
  · rw [f30]; exact hd8 r hr
  · refine ⟨fun _ => ⟨5 * u + v, by omega, by rw [edB]; simp⟩, fun _ => ?_⟩
    simp [up3]
  · rw [f4.1]; simp [uI_get, up3, b1]
  · rw [f4.1]; simp [uI_get, up3, b2']
  · rw [f4.2.2.1, eS_up _ _ _ _ _ (by decide), eS_up _ _ _ _ _ (by decide)]; exact b3
theorem c_X4_receive (hl : l.stackTraces = false) {j : Nat} (hj : inD (cnt ns nt) 4 j) (x y : Int) (hx : 0 ≤ x ∧ x ≤ 100000) (hy : 0 ≤ y ∧ y ≤ 100000) : Con l b0 yX4_receive cX4_receive 3 none 1 0 0 [aO 4 j, aI x, aI y] ad (cnt ns nt) M (fun r9 M' => M' = uL (uI (uI M 4 j 8 (M.1 4 j 8 + x)) 4 j 9 (M.1 4 j 9 + y)) 4 j 10 (M.2.2.1 4 j 10 + (x + y)) ∧ r9 = none) noX := by
  refine Con.of hl pl_X4 (Nat.le_of_ble_eq_true rfl) ?_
  intro D cA p e s m args below meth c C hr
  refine w_aload_n C dX4_receive_0 rfl ?_
  refine w_dup C dX4_receive_1 rfl ?_
  refine g_X4_63 C dX4_receive_2 (by first | assumption | exact Nat.zero_lt_one | exact Nat.zero_lt_two | exact Nat.one_lt_two) ?_
  refine w_iload_n C dX4_receive_5 rfl ?_
  refine w_iadd C dX4_receive_6 ?_
  refine p_X4_63 C dX4_receive_7 (by first | assumption | exact Nat.zero_lt_one | exact Nat.zero_lt_two | exact Nat.one_lt_two) ?_
  refine w_aload_n C dX4_receive_10 rfl ?_
  refine w_dup C dX4_receive_11 rfl ?_
  refine g_X4_66 C dX4_receive_12 (by first | assumption | exact Nat.zero_lt_one | exact Nat.zero_lt_two | exact Nat.one_lt_two) ?_
  refine w_iload_n C dX4_receive_15 rfl ?_
  refine w_iadd C dX4_receive_16 ?_
  refine p_X4_66 C dX4_receive_17 (by first | assumption | exact Nat.zero_lt_one | exact Nat.zero_lt_two | exact Nat.one_lt_two) ?_
  refine w_aload_n C dX4_receive_20 rfl ?_
  refine w_dup C dX4_receive_21 rfl ?_
  refine g_X4_75 C dX4_receive_22 (by first | assumption | exact Nat.zero_lt_one | exact Nat.zero_lt_two | exact Nat.one_lt_two) ?_
  refine w_iload_n C dX4_receive_25 rfl ?_
  refine w_iload_n C dX4_receive_26 rfl ?_
  refine w_iadd C dX4_receive_27 ?_
  refine w_i2l C dX4_receive_28 (by omega) ?_
  refine w_ladd C dX4_receive_29 ?_
  refine p_X4_75 C dX4_receive_30 (by first | assumption | exact Nat.zero_lt_one | exact Nat.zero_lt_two | exact Nat.one_lt_two) ?_
  refine w_vret C hr dX4_receive_33 (⟨by simp [uI_get, uI_r], rfl⟩) (by decide) (by decide)
theorem c_X4_giveAway (hl : l.stackTraces = false) {j pa : Nat} (hj : inD (cnt ns nt) 4 j) (hp : M.1 4 j 1 = pa) (hpa : pa ≤ 1) (x : Int) : Con l b0 yX4_giveAway cX4_giveAway 2 none 1 0 0 [aO 4 j, aI x] ad (cnt ns nt) M (fun r9 M' => M' = (if pa = 1 then uI (uI M 4 j 8 (M.1 4 j 8 - x)) 4 j 9 (M.1 4 j 9 - x) else uI M 4 j 8 (M.1 4 j 8 - x)) ∧ r9 = none) noX := by
  have hp2 : (uI M 4 j 8 (M.1 4 j 8 - x)).1 4 j 1 = pa := by rw [uI_get, if_neg (by simp)]; exact hp
  refine Con.of hl pl_X4 (Nat.le_of_ble_eq_true rfl) ?_
  intro D cA p e s m args below meth c C hr
  refine w_aload_n C dX4_giveAway_0 rfl ?_
  refine w_dup C dX4_giveAway_1 rfl ?_
  refine g_X4_63 C dX4_giveAway_2 (by first | assumption | exact Nat.zero_lt_one | exact Nat.zero_lt_two | exact Nat.one_lt_two) ?_
  refine w_iload_n C dX4_giveAway_5 rfl ?_
  refine w_isub C dX4_giveAway_6 ?_
  refine p_X4_63 C dX4_giveAway_7 (by first | assumption | exact Nat.zero_lt_one | exact Nat.zero_lt_two | exact Nat.one_lt_two) ?_
  refine w_aload_n C dX4_giveAway_10 rfl ?_
  refine g_X4_15 C dX4_giveAway_11 (by first | assumption | exact Nat.zero_lt_one | exact Nat.zero_lt_two | exact Nat.one_lt_two) ?_
  refine w_if_eq C dX4_giveAway_14 (by omega) (fun h14 => ?_) (fun h14 => ?_)
  · refine w_vret C hr dX4_giveAway_27 (⟨by rw [if_neg (by omega)], rfl⟩) (by decide) (by decide)
  · refine w_aload_n C dX4_giveAway_17 rfl ?_
    refine w_dup C dX4_giveAway_18 rfl ?_
    refine g_X4_66 C dX4_giveAway_19 (by first | assumption | exact Nat.zero_lt_one | exact Nat.zero_lt_two | exact Nat.one_lt_two) ?_
    refine w_iload_n C dX4_giveAway_22 rfl ?_
    refine w_isub C dX4_giveAway_23 ?_
    refine p_X4_66 C dX4_giveAway_24 (by first | assumption | exact Nat.zero_lt_one | exact Nat.zero_lt_two | exact Nat.one_lt_two) ?_
    refine w_vret C hr dX4_giveAway_27 (⟨by rw [if_pos (by omega)]; simp [uI_get], rfl⟩) (by decide) (by decide)
end Sh
