/-! Marker: cover, join, leave, rowsUsed -/
theorem tb_sh {d : Nat → Bool} {t mi i col v : Nat} : (bitsN (nc d t mi i) 5 * 2 ^ col).testBit v = (decide (col ≤ v) && nc d t mi i (v - col)) := by
  rw [Nat.testBit_mul_two_pow, bitsN_tb]
  by_cases h : col ≤ v
  · cases hn : nc d t mi i (v - col) with
    | false => simp
    | true =>
      have := nc_lt hn
      rw [decide_eq_true this.2.1]
      rfl
  · rw [decide_eq_false h]
    rfl
theorem cv_row {S : Sg} {p : Pc} {i v : Nat} : cv S p (pRow p + i) v = (decide (pCol p ≤ v) && nc (dB S (pShp p)) (pTrn p) (pMir p) i (v - pCol p)) := by
  unfold cv
  rw [decide_eq_true (Nat.le_add_right _ _), Nat.add_sub_cancel_left]
  rfl
theorem cv_dom {S : Sg} {p : Pc} {u v : Nat} (h : cv S p u v = true) : pRow p ≤ u ∧ pCol p ≤ v ∧ (u : Int) < pRow p + hgt (dB S (pShp p)) (pTrn p) (pMir p) ∧ (v : Int) < pCol p + wid (dB S (pShp p)) (pTrn p) (pMir p) := by
  obtain ⟨r', c', e1, e2, h5⟩ := cv_iff.mp h
  have := nc_lt h5
  omega
def ovr (S : Sg) (q : Pc) (x : Int) (g : Nat → Nat → Bool) (u v : Nat) : Bool := if cv S q u v = true then decide (x ≠ -1) else g u v
def cvK (mi : Nat) : Nat → Nat → Prop := fun k i => (k = 22 ∨ k = 23) ∧ i = mi
theorem andN_lt {a b n : Nat} (h : a < 2 ^ n) : andN a b < 2 ^ n := by
  refine Nat.lt_pow_two_of_testBit _ fun i hi => ?_
  rw [andN_tb, Nat.testBit_lt_two_pow (Nat.lt_of_lt_of_le h (Nat.pow_le_pow_right (by decide) hi))]
  rfl
theorem wr_no {M : Mem} {k i n : Nat} {z v : Int} (h : z < 0) : wr M k i n z v = M := by
  unfold wr
  rw [if_neg (by omega)]
section Mk
variable {l : Launch} {b0 : Nat → Prop} {ad : Ads} {ns nt : Nat} {M : Mem}
theorem c_X1_cover (hl : l.stackTraces = false) {S : Sg} {q : Pc} {mi : Nat} {g : Nat → Nat → Bool} (hmi : inD (cnt ns nt) 2 mi) (o1 : inD (cnt ns nt) 5 (8 * pShp q + (pTrn q + 4 * pMir q))) (o2 : inD (cnt ns nt) 31 (8 * pShp q + (pTrn q + 4 * pMir q))) (o3 : ∀ r, r < 5 → M.1 31 (8 * pShp q + (pTrn q + 4 * pMir q)) r = (bitsN (nc (dB S (pShp q)) (pTrn q) (pMir q) r) 5 : Nat)) (o4 : M.1 5 (8 * pShp q + (pTrn q + 4 * pMir q)) 3 = hgt (dB S (pShp q)) (pTrn q) (pMir q)) (h1 : (pRow q : Int) + hgt (dB S (pShp q)) (pTrn q) (pMir q) ≤ 60) (h2 : (pCol q : Int) + wid (dB S (pShp q)) (pTrn q) (pMir q) ≤ 12) (h3 : pRow q ≤ 65) (h4 : pCol q ≤ 12) (hg : ∀ u, u < 60 → M.1 23 mi u = (bitsN (g u) 12 : Nat)) (x : Int) (hx : -1 ≤ x ∧ x ≤ 2147483647) : Con l b0 yX1_cover cX1_cover 9 none 2 0 0 [aO 2 mi, aO 5 (8 * pShp q + (pTrn q + 4 * pMir q)), aI (pRow q), aI (pCol q), aI x] ad (cnt ns nt) M (fun r9 M' => Fr (cvK mi) M M' ∧ (∀ k, k < 720 → M'.1 22 mi k = if cv S q (k / 12) (k % 12) = true then x else M.1 22 mi k) ∧ (∀ u, u < 60 → M'.1 23 mi u = (bitsN (ovr S q x g u) 12 : Nat)) ∧ r9 = none) noX := by
  have i22 : inD (cnt ns nt) 22 mi := hmi
  have i23 : inD (cnt ns nt) 23 mi := hmi
  have hb := hgt_bd (dB S (pShp q)) (pTrn q) (pMir q)
  refine Con.of hl pl_X1 (Nat.le_of_ble_eq_true rfl) ?_
  intro D cA p e s m args below meth c C hr
  have loop : ∀ (b n : Nat) (M1 : Mem), n + b = 5 → Fr (cvK mi) M M1 → (∀ k, k < 720 → M1.1 22 mi k = if k < 12 * (pRow q + n) ∧ cv S q (k / 12) (k % 12) = true then x else M.1 22 mi k) → (∀ u, u < 60 → M1.1 23 mi u = (bitsN (if u < pRow q + n then ovr S q x g u else g u) 12 : Nat)) → Wm p l e (rmd 2 0 0) s m args below meth c 9 D cA b0 0 0 (vx_MQ below (mQ D cA b0 ad (cnt ns nt) (fun r9 M' => Fr (cvK mi) M M' ∧ (∀ k, k < 720 → M'.1 22 mi k = if cv S q (k / 12) (k % 12) = true then x else M.1 22 mi k) ∧ (∀ u, u < 60 → M'.1 23 mi u = (bitsN (ovr S q x g u) 12 : Nat)) ∧ r9 = none)) (mX D cA b0 ad (cnt ns nt) noX) args s 0 0 b0) 3 [(0, aO 2 mi), (1, aO 5 (8 * pShp q + (pTrn q + 4 * pMir q))), (2, aI (pRow q)), (3, aI (pCol q)), (4, aI x), (5, aI n)] [] ad (cnt ns nt) M1 := by
    intro b
    induction b with
    | zero =>
      intro n M1 hn hF hO hT
      have e4 : M1.1 5 (8 * pShp q + (pTrn q + 4 * pMir q)) 3 = hgt (dB S (pShp q)) (pTrn q) (pMir q) := by rw [(hF _ _ (fun h => by rcases h.1 with h | h <;> exact absurd h (by decide))).1]; exact o4
      refine w_iload C dX1_cover_3 rfl ?_
      refine w_aload_n C dX1_cover_5 rfl ?_
      refine g_X1_107 C dX1_cover_6 (by first | assumption | exact Nat.zero_lt_one | exact Nat.zero_lt_two | exact Nat.one_lt_two) ?_
      rw [e4]
      refine w_icmp_ge C dX1_cover_9 (by omega) (by omega) (fun h9 => ?_) (fun h9 => ?_)
      · refine w_vret C hr dX1_cover_121 (⟨hF, fun k hk => ?_, fun u hu => ?_, rfl⟩) (by decide) (by decide)
        · rw [hO k hk]
          by_cases hc : cv S q (k / 12) (k % 12) = true
          · have := cv_dom hc
            rw [if_pos ⟨by omega, hc⟩, if_pos hc]
          · rw [if_neg (fun h => hc h.2), if_neg hc]
        · rw [hT u hu]
          refine congrArg (fun z : Nat => (z : Int)) (bitsN_cg fun v hv => ?_)
          split
          · rfl
          · unfold ovr
            rw [if_neg]
            intro hc
            have := cv_dom hc
            omega
      · omega
    | succ b ih =>
      intro n M1 hn hF hO hT
      have e4 : M1.1 5 (8 * pShp q + (pTrn q + 4 * pMir q)) 3 = hgt (dB S (pShp q)) (pTrn q) (pMir q) := by rw [(hF _ _ (fun h => by rcases h.1 with h | h <;> exact absurd h (by decide))).1]; exact o4
      have e3 : ∀ r, r < 5 → M1.1 31 (8 * pShp q + (pTrn q + 4 * pMir q)) r = (bitsN (nc (dB S (pShp q)) (pTrn q) (pMir q) r) 5 : Nat) := fun r hr => by rw [(hF _ _ (fun h => by rcases h.1 with h | h <;> exact absurd h (by decide))).1]; exact o3 r hr
      refine w_iload C dX1_cover_3 rfl ?_
      refine w_aload_n C dX1_cover_5 rfl ?_
      refine g_X1_107 C dX1_cover_6 (by first | assumption | exact Nat.zero_lt_one | exact Nat.zero_lt_two | exact Nat.one_lt_two) ?_
      rw [e4]
      refine w_icmp_ge C dX1_cover_9 (by omega) (by omega) (fun h9 => ?_) (fun h9 => ?_)
      · refine w_vret C hr dX1_cover_121 (⟨hF, fun k hk => ?_, fun u hu => ?_, rfl⟩) (by decide) (by decide)
        · rw [hO k hk]
          by_cases hc : cv S q (k / 12) (k % 12) = true
          · have := cv_dom hc
            rw [if_pos ⟨by omega, hc⟩, if_pos hc]
          · rw [if_neg (fun h => hc h.2), if_neg hc]
        · rw [hT u hu]
          refine congrArg (fun z : Nat => (z : Int)) (bitsN_cg fun v hv => ?_)
          split
          · rfl
          · unfold ovr
            rw [if_neg]
            intro hc
            have := cv_dom hc
            omega
      · have p1 : 2 ^ pCol q ≤ 2 ^ 12 := Nat.pow_le_pow_right (by decide) h4
        have p2 : bitsN (nc (dB S (pShp q)) (pTrn q) (pMir q) n) 5 < 2 ^ 5 := bitsN_lt _ _
        have p3 : bitsN (nc (dB S (pShp q)) (pTrn q) (pMir q) n) 5 * 2 ^ pCol q ≤ 2 ^ 5 * 2 ^ 12 := Nat.mul_le_mul (Nat.le_of_lt p2) p1
        have p4 : bitsN (g (pRow q + n)) 12 < 2 ^ 12 := bitsN_lt _ _
        have hcv : ∀ v, (bitsN (nc (dB S (pShp q)) (pTrn q) (pMir q) n) 5 * 2 ^ pCol q).testBit v = cv S q (pRow q + n) v := fun v => by rw [tb_sh, cv_row]
        refine w_aload_n C dX1_cover_12 rfl ?_
        refine g_X1_114 C dX1_cover_13 (by first | assumption | exact Nat.zero_lt_one | exact Nat.zero_lt_two | exact Nat.one_lt_two) ?_
        refine w_iload C dX1_cover_16 rfl ?_
        refine w_callN C dX1_cover_18 (c_X6_entry hl IA_31 o2 n (by omega)) mX6_entry sX6_entry lk_X1_110 rfl rfl ⟨by decide, by decide, by decide, by decide⟩ (Nat.le_of_ble_eq_true rfl) (fun _ _ h => h.elim) ⟨by decide, by decide⟩ (fun r_ M_ q18 => ?_)
        obtain ⟨rfl, rfl⟩ := q18
        rw [rd_ok (by omega), e3 n (by omega)]
        refine w_iload_n C dX1_cover_21 rfl ?_
        refine w_ishl (x := bitsN (nc (dB S (pShp q)) (pTrn q) (pMir q) n) 5) C dX1_cover_22 (by omega) ?_
        refine w_istore C dX1_cover_23 (by decide) ?_
        refine w_aload_n C dX1_cover_25 rfl ?_
        refine g_X1_28 C dX1_cover_26 (by first | assumption | exact Nat.zero_lt_one | exact Nat.zero_lt_two | exact Nat.one_lt_two) ?_
        refine w_iload_n C dX1_cover_29 rfl ?_
        refine w_iload C dX1_cover_30 rfl ?_
        refine w_iadd C dX1_cover_32 ?_
        refine w_callN C dX1_cover_33 (c_X6_entry hl IA_23 i23 ((pRow q : Int) + n) (by omega)) mX6_entry sX6_entry lk_X1_110 rfl rfl ⟨by decide, by decide, by decide, by decide⟩ (Nat.le_of_ble_eq_true rfl) (fun _ _ h => h.elim) ⟨by decide, by decide⟩ (fun r_ M_ q33 => ?_)
        obtain ⟨rfl, rfl⟩ := q33
        rw [show (pRow q : Int) + n = ((pRow q + n : Nat) : Int) by omega, rd_ok (by omega), hT _ (by omega), if_neg (Nat.lt_irrefl _)]
        refine w_istore C dX1_cover_36 (by decide) ?_
        refine w_aload_n C dX1_cover_38 rfl ?_
        refine g_X1_28 C dX1_cover_39 (by first | assumption | exact Nat.zero_lt_one | exact Nat.zero_lt_two | exact Nat.one_lt_two) ?_
        refine w_iload_n C dX1_cover_42 rfl ?_
        refine w_iload C dX1_cover_43 rfl ?_
        refine w_iadd C dX1_cover_45 ?_
        refine w_iload C dX1_cover_46 rfl ?_
        refine w_iconst C dX1_cover_48 ?_
        have inner : ∀ (b' w : Nat) (M2 : Mem), w + b' = 12 → Fr (cvK mi) M M2 → (∀ k, k < 720 → M2.1 22 mi k = if k < 12 * (pRow q + n) + w ∧ cv S q (k / 12) (k % 12) = true then x else M.1 22 mi k) → (∀ u, u < 60 → M2.1 23 mi u = (bitsN (if u < pRow q + (n + 1) then ovr S q x g u else g u) 12 : Nat)) → Wm p l e (rmd 2 0 0) s m args below meth c 9 D cA b0 0 0 (vx_MQ below (mQ D cA b0 ad (cnt ns nt) (fun r9 M' => Fr (cvK mi) M M' ∧ (∀ k, k < 720 → M'.1 22 mi k = if cv S q (k / 12) (k % 12) = true then x else M.1 22 mi k) ∧ (∀ u, u < 60 → M'.1 23 mi u = (bitsN (ovr S q x g u) 12 : Nat)) ∧ r9 = none)) (mX D cA b0 ad (cnt ns nt) noX) args s 0 0 b0) 73 [(0, aO 2 mi), (1, aO 5 (8 * pShp q + (pTrn q + 4 * pMir q))), (2, aI (pRow q)), (3, aI (pCol q)), (4, aI x), (5, aI n), (6, aI (bitsN (nc (dB S (pShp q)) (pTrn q) (pMir q) n) 5 * 2 ^ pCol q : Nat)), (8, aI w)] [] ad (cnt ns nt) M2 := by
          intro b'
          induction b' with
          | zero =>
            intro w M2 hw hF2 hO2 hT2
            refine w_iload C dX1_cover_73 rfl ?_
            refine w_bipush (v := 12) C dX1_cover_75 rfl ?_
            refine w_icmp_ge C dX1_cover_77 (by omega) (by omega) (fun h77 => ?_) (fun h77 => ?_)
            · refine w_iinc C dX1_cover_115 rfl (by decide) ?_
              refine w_goto C dX1_cover_118 ?_
              exact Wm.lsub (lv' := [(0, aO 2 mi), (1, aO 5 (8 * pShp q + (pTrn q + 4 * pMir q))), (2, aI (pRow q)), (3, aI (pCol q)), (4, aI x), (5, aI ((n + 1 : Nat) : Int))]) ⟨rfl, rfl, rfl, rfl, rfl, rfl, trivial⟩ (ih (n + 1) M2 (by omega) hF2 (fun k hk => by rw [hO2 k hk, show 12 * (pRow q + n) + w = 12 * (pRow q + (n + 1)) by omega]) hT2)
            · omega
          | succ b' ih' =>
            intro w M2 hw hF2 hO2 hT2
            refine w_iload C dX1_cover_73 rfl ?_
            refine w_bipush (v := 12) C dX1_cover_75 rfl ?_
            refine w_icmp_ge C dX1_cover_77 (by omega) (by omega) (fun h77 => ?_) (fun h77 => ?_)
            · omega
            · refine w_iload C dX1_cover_80 rfl ?_
              refine w_iload C dX1_cover_82 rfl ?_
              refine w_callN C dX1_cover_84 (c_X6_hasBit hl _ w (by omega) (by omega)) mX6_hasBit sX6_hasBit lk_X1_164 rfl rfl ⟨by decide, by decide, by decide, by decide⟩ (Nat.le_of_ble_eq_true rfl) (fun _ _ h => h.elim) ⟨by decide, by decide⟩ (fun r_ M_ q84 => ?_)
              obtain ⟨rfl, rfl⟩ := q84
              rw [hcv]
              have h01 := b2_01 (cv S q (pRow q + n) w = true)
              have e12 : (12 * (pRow q + n) + w) / 12 = pRow q + n ∧ (12 * (pRow q + n) + w) % 12 = w := by omega
              refine w_if_eq C dX1_cover_87 (by omega) (fun h87 => ?_) (fun h87 => ?_)
              · have hc : ¬ cv S q (pRow q + n) w = true := fun h9 => by
                  rw [b2_t h9] at h87
                  omega
                refine w_iinc C dX1_cover_109 rfl (by decide) ?_
                refine w_goto C dX1_cover_112 ?_
                refine Wm.lsub (lv' := [(0, aO 2 mi), (1, aO 5 (8 * pShp q + (pTrn q + 4 * pMir q))), (2, aI (pRow q)), (3, aI (pCol q)), (4, aI x), (5, aI n), (6, aI (bitsN (nc (dB S (pShp q)) (pTrn q) (pMir q) n) 5 * 2 ^ pCol q : Nat)), (8, aI ((w + 1 : Nat) : Int))]) ⟨rfl, rfl, rfl, rfl, rfl, rfl, rfl, rfl, trivial⟩ (ih' (w + 1) _ (by omega) hF2 (fun k hk => ?_) hT2)
                rw [hO2 k hk]
                by_cases hk2 : k = 12 * (pRow q + n) + w
                · subst hk2
                  rw [e12.1, e12.2, if_neg (fun h => hc h.2), if_neg (fun h => hc h.2)]
                · by_cases hk3 : k < 12 * (pRow q + n) + w ∧ cv S q (k / 12) (k % 12) = true
                  · rw [if_pos hk3, if_pos ⟨by omega, hk3.2⟩]
                  · rw [if_neg hk3, if_neg (fun h => hk3 ⟨by omega, h.2⟩)]
              · have hc : cv S q (pRow q + n) w = true := Decidable.byContradiction fun h9 => h87 (b2_f h9)
                refine w_aload_n C dX1_cover_90 rfl ?_
                refine g_X1_18 C dX1_cover_91 (by first | assumption | exact Nat.zero_lt_one | exact Nat.zero_lt_two | exact Nat.one_lt_two) ?_
                refine w_iload_n C dX1_cover_94 rfl ?_
                refine w_iload C dX1_cover_95 rfl ?_
                refine w_iadd C dX1_cover_97 ?_
                refine w_bipush (v := 12) C dX1_cover_98 rfl ?_
                refine w_imul C dX1_cover_100 ?_
                refine w_iload C dX1_cover_101 rfl ?_
                refine w_iadd C dX1_cover_103 ?_
                refine w_iload C dX1_cover_104 rfl ?_
                refine w_callN C dX1_cover_106 (c_X6_store hl IA_22 i22 (((pRow q : Int) + n) * 12 + w) x (by omega)) mX6_store sX6_store lk_X1_160 rfl rfl ⟨by decide, by decide, by decide, by decide⟩ (Nat.le_of_ble_eq_true rfl) (fun _ _ h => h.elim) ⟨by decide, by decide⟩ (fun r_ M_ q106 => ?_)
                obtain ⟨q106, rfl⟩ := q106
                rw [show ((pRow q : Int) + n) * 12 + w = ((12 * (pRow q + n) + w : Nat) : Int) by omega, wr_ok (by omega)] at q106
                subst q106
                refine w_iinc C dX1_cover_109 rfl (by decide) ?_
                refine w_goto C dX1_cover_112 ?_
                refine Wm.lsub (lv' := [(0, aO 2 mi), (1, aO 5 (8 * pShp q + (pTrn q + 4 * pMir q))), (2, aI (pRow q)), (3, aI (pCol q)), (4, aI x), (5, aI n), (6, aI (bitsN (nc (dB S (pShp q)) (pTrn q) (pMir q) n) 5 * 2 ^ pCol q : Nat)), (8, aI ((w + 1 : Nat) : Int))]) ⟨rfl, rfl, rfl, rfl, rfl, rfl, rfl, rfl, trivial⟩ (ih' (w + 1) _ (by omega) (hF2.uI ⟨Or.inl rfl, rfl⟩) (fun k hk => ?_) (fun u hu => ?_))
                · rw [uI_get]
                  by_cases hk2 : k = 12 * (pRow q + n) + w
                  · subst hk2
                    rw [if_pos ⟨rfl, rfl, rfl⟩, if_pos ⟨by omega, by rw [e12.1, e12.2]; exact hc⟩]
                  · rw [if_neg (fun h => hk2 h.2.2), hO2 k hk]
                    by_cases hk3 : k < 12 * (pRow q + n) + w ∧ cv S q (k / 12) (k % 12) = true
                    · rw [if_pos hk3, if_pos ⟨by omega, hk3.2⟩]
                    · rw [if_neg hk3, if_neg (fun h => hk3 ⟨by omega, h.2⟩)]
                · rw [uI_get, if_neg (fun h => absurd h.1 (by decide))]
                  exact hT2 u hu
        have bitsNew : ∀ (y : Nat), (∀ v, y.testBit v = if cv S q (pRow q + n) v = true then decide (x ≠ -1) else (bitsN (g (pRow q + n)) 12).testBit v) → y = bitsN (ovr S q x g (pRow q + n)) 12 := fun y hy => bitsN_of fun v => by
          rw [hy, bitsN_tb]
          unfold ovr
          by_cases hc : cv S q (pRow q + n) v = true
          · have := cv_dom hc
            rw [if_pos hc, if_pos hc, decide_eq_true (show v < 12 by omega)]
            rfl
          · rw [if_neg hc, if_neg hc]
        have K67 : ∀ y : Nat, y = bitsN (ovr S q x g (pRow q + n)) 12 → Wm p l e (rmd 2 0 0) s m args below meth c 9 D cA b0 0 0 (vx_MQ below (mQ D cA b0 ad (cnt ns nt) (fun r9 M' => Fr (cvK mi) M M' ∧ (∀ k, k < 720 → M'.1 22 mi k = if cv S q (k / 12) (k % 12) = true then x else M.1 22 mi k) ∧ (∀ u, u < 60 → M'.1 23 mi u = (bitsN (ovr S q x g u) 12 : Nat)) ∧ r9 = none)) (mX D cA b0 ad (cnt ns nt) noX) args s 0 0 b0) 67 [(0, aO 2 mi), (1, aO 5 (8 * pShp q + (pTrn q + 4 * pMir q))), (2, aI (pRow q)), (3, aI (pCol q)), (4, aI x), (5, aI n), (6, aI (bitsN (nc (dB S (pShp q)) (pTrn q) (pMir q) n) 5 * 2 ^ pCol q : Nat)), (7, aI (bitsN (g (pRow q + n)) 12 : Nat))] [aI y, aI ((pRow q : Int) + n), aO 23 mi] ad (cnt ns nt) M_ := by
          intro y hy
          subst hy
          refine w_callN C dX1_cover_67 (c_X6_store hl IA_23 i23 ((pRow q : Int) + n) _ (by omega)) mX6_store sX6_store lk_X1_160 rfl rfl ⟨by decide, by decide, by decide, by decide⟩ (Nat.le_of_ble_eq_true rfl) (fun _ _ h => h.elim) ⟨by decide, by decide⟩ (fun r_ M_ q67 => ?_)
          obtain ⟨q67, rfl⟩ := q67
          rw [show (pRow q : Int) + n = ((pRow q + n : Nat) : Int) by omega, wr_ok (by omega)] at q67
          subst q67
          refine w_iconst C dX1_cover_70 ?_
          refine w_istore C dX1_cover_71 (by decide) ?_
          refine Wm.lsub (lv' := [(0, aO 2 mi), (1, aO 5 (8 * pShp q + (pTrn q + 4 * pMir q))), (2, aI (pRow q)), (3, aI (pCol q)), (4, aI x), (5, aI n), (6, aI (bitsN (nc (dB S (pShp q)) (pTrn q) (pMir q) n) 5 * 2 ^ pCol q : Nat)), (8, aI ((0 : Nat) : Int))]) ⟨rfl, rfl, rfl, rfl, rfl, rfl, rfl, rfl, trivial⟩ (inner 12 0 _ rfl (hF.uI ⟨Or.inr rfl, rfl⟩) (fun k hk => ?_) (fun u hu => ?_))
          · rw [uI_get, if_neg (fun h => absurd h.1 (by decide))]
            exact hO k hk
          · rw [uI_get]
            by_cases hu2 : u = pRow q + n
            · subst hu2
              rw [if_pos ⟨rfl, rfl, rfl⟩, if_pos (by omega)]
            · rw [if_neg (fun h => hu2 h.2.2), hT u hu]
              by_cases hu3 : u < pRow q + n
              · rw [if_pos hu3, if_pos (by omega)]
              · rw [if_neg hu3, if_neg (by omega)]
        refine w_icmp_ne C dX1_cover_49 (by omega) (by omega) (fun h49 => ?_) (fun h49 => ?_)
        · refine w_iload C dX1_cover_62 rfl ?_
          refine w_iload C dX1_cover_64 rfl ?_
          have p6 : bitsN (g (pRow q + n)) 12 ||| bitsN (nc (dB S (pShp q)) (pTrn q) (pMir q) n) 5 * 2 ^ pCol q < 2 ^ 18 := Nat.or_lt_two_pow (by omega) (by omega)
          refine w_ior C dX1_cover_66 (by omega) (by omega) ?_
          refine Wm.lsub (lv' := [(0, aO 2 mi), (1, aO 5 (8 * pShp q + (pTrn q + 4 * pMir q))), (2, aI (pRow q)), (3, aI (pCol q)), (4, aI x), (5, aI n), (6, aI (bitsN (nc (dB S (pShp q)) (pTrn q) (pMir q) n) 5 * 2 ^ pCol q : Nat)), (7, aI (bitsN (g (pRow q + n)) 12 : Nat))]) ⟨rfl, rfl, rfl, rfl, rfl, rfl, rfl, rfl, trivial⟩ (K67 _ (bitsNew _ fun v => ?_))
          rw [Nat.testBit_or, hcv]
          by_cases hc : cv S q (pRow q + n) v = true
          · rw [if_pos hc, hc, Bool.or_true, decide_eq_true (by omega)]
          · rw [if_neg hc, Bool.eq_false_iff.mpr hc, Bool.or_false]
        · refine w_iload C dX1_cover_52 rfl ?_
          refine w_iload C dX1_cover_54 rfl ?_
          refine w_iconst C dX1_cover_56 ?_
          refine w_ixorm C dX1_cover_57 ?_
          refine w_iandn C dX1_cover_58 (by omega) (by omega) ?_
          refine w_goto C dX1_cover_59 ?_
          refine Wm.lsub (lv' := [(0, aO 2 mi), (1, aO 5 (8 * pShp q + (pTrn q + 4 * pMir q))), (2, aI (pRow q)), (3, aI (pCol q)), (4, aI x), (5, aI n), (6, aI (bitsN (nc (dB S (pShp q)) (pTrn q) (pMir q) n) 5 * 2 ^ pCol q : Nat)), (7, aI (bitsN (g (pRow q + n)) 12 : Nat))]) ⟨rfl, rfl, rfl, rfl, rfl, rfl, rfl, rfl, trivial⟩ (K67 _ (bitsNew _ fun v => ?_))
          rw [andN_tb, hcv]
          by_cases hc : cv S q (pRow q + n) v = true
          · rw [if_pos hc, hc, Bool.not_true, Bool.and_false, decide_eq_false (by omega)]
          · rw [if_neg hc, Bool.eq_false_iff.mpr hc, Bool.not_false, Bool.and_true]
  refine w_iconst C dX1_cover_0 ?_
  refine w_istore C dX1_cover_1 (by decide) ?_
  exact Wm.lsub (lv' := [(0, aO 2 mi), (1, aO 5 (8 * pShp q + (pTrn q + 4 * pMir q))), (2, aI (pRow q)), (3, aI (pCol q)), (4, aI x), (5, aI ((0 : Nat) : Int))]) ⟨rfl, rfl, rfl, rfl, rfl, rfl, trivial⟩ (loop 5 0 M rfl Fr.rf (fun k hk => by
    rw [if_neg]
    rintro ⟨h5, h6⟩
    have := cv_dom h6
    omega) (fun u hu => by
    rw [hg u hu]
    refine congrArg (fun z : Nat => (z : Int)) (bitsN_cg fun v hv => ?_)
    split
    · unfold ovr
      rw [if_neg]
      intro hc
      have := cv_dom hc
      omega
    · rfl))
theorem c_X1_join (hl : l.stackTraces = false) {mi : Nat} (hmi : inD (cnt ns nt) 2 mi) (g : Nat) (hg : g ≤ 4) (z : Int) (hz : -2147483648 ≤ z ∧ z ≤ 2147483647) (hm : ∀ k, k < 4 → -2147483648 ≤ M.1 24 mi k ∧ M.1 24 mi k ≤ 1000) : Con l b0 yX1_join cX1_join 3 none 2 0 0 [aO 2 mi, aI ((g : Int) - 1), aI z] ad (cnt ns nt) M (fun r9 M' => M' = (if g = 0 then M else uI (uI M 24 mi (g - 1) (M.1 24 mi (g - 1) + 1)) 25 mi (g - 1) z) ∧ r9 = none) noX := by
  have i24 : inD (cnt ns nt) 24 mi := hmi
  have i25 : inD (cnt ns nt) 25 mi := hmi
  by_cases h0 : g = 0
  · subst h0
    refine Con.of hl pl_X1 (Nat.le_of_ble_eq_true rfl) ?_
    intro D cA p e s m args below meth c C hr
    refine w_aload_n C dX1_join_0 rfl ?_
    refine g_X1_31 C dX1_join_1 (by first | assumption | exact Nat.zero_lt_one | exact Nat.zero_lt_two | exact Nat.one_lt_two) ?_
    refine w_iload_n C dX1_join_4 rfl ?_
    refine w_aload_n C dX1_join_5 rfl ?_
    refine g_X1_31 C dX1_join_6 (by first | assumption | exact Nat.zero_lt_one | exact Nat.zero_lt_two | exact Nat.one_lt_two) ?_
    refine w_iload_n C dX1_join_9 rfl ?_
    refine w_callN C dX1_join_10 (c_X6_entry hl IA_24 i24 (((0 : Nat) : Int) - 1) (by omega)) mX6_entry sX6_entry lk_X1_110 rfl rfl ⟨by decide, by decide, by decide, by decide⟩ (Nat.le_of_ble_eq_true rfl) (fun _ _ h => h.elim) ⟨by decide, by decide⟩ (fun r_ M_ q10 => ?_)
    obtain ⟨rfl, rfl⟩ := q10
    refine w_iconst C dX1_join_13 ?_
    refine w_iadd C dX1_join_14 ?_
    refine w_callN C dX1_join_15 (c_X6_store hl IA_24 i24 (((0 : Nat) : Int) - 1) _ (by omega)) mX6_store sX6_store lk_X1_160 rfl rfl ⟨by decide, by decide, by decide, by decide⟩ (Nat.le_of_ble_eq_true rfl) (fun _ _ h => h.elim) ⟨by decide, by decide⟩ (fun r_ M_ q15 => ?_)
    obtain ⟨q15, rfl⟩ := q15
    rw [wr_no (by omega)] at q15
    subst q15
    refine w_aload_n C dX1_join_18 rfl ?_
    refine g_X1_34 C dX1_join_19 (by first | assumption | exact Nat.zero_lt_one | exact Nat.zero_lt_two | exact Nat.one_lt_two) ?_
    refine w_iload_n C dX1_join_22 rfl ?_
    refine w_iload_n C dX1_join_23 rfl ?_
    refine w_callN C dX1_join_24 (c_X6_store hl IA_25 i25 (((0 : Nat) : Int) - 1) z (by omega)) mX6_store sX6_store lk_X1_160 rfl rfl ⟨by decide, by decide, by decide, by decide⟩ (Nat.le_of_ble_eq_true rfl) (fun _ _ h => h.elim) ⟨by decide, by decide⟩ (fun r_ M_ q24 => ?_)
    obtain ⟨q24, rfl⟩ := q24
    rw [wr_no (by omega)] at q24
    subst q24
    refine w_vret C hr dX1_join_27 (⟨rfl, rfl⟩) (by decide) (by decide)
  · have e : (g : Int) - 1 = ((g - 1 : Nat) : Int) := by omega
    have hm9 := hm (g - 1) (by omega)
    rw [e]
    refine Con.of hl pl_X1 (Nat.le_of_ble_eq_true rfl) ?_
    intro D cA p e s m args below meth c C hr
    refine w_aload_n C dX1_join_0 rfl ?_
    refine g_X1_31 C dX1_join_1 (by first | assumption | exact Nat.zero_lt_one | exact Nat.zero_lt_two | exact Nat.one_lt_two) ?_
    refine w_iload_n C dX1_join_4 rfl ?_
    refine w_aload_n C dX1_join_5 rfl ?_
    refine g_X1_31 C dX1_join_6 (by first | assumption | exact Nat.zero_lt_one | exact Nat.zero_lt_two | exact Nat.one_lt_two) ?_
    refine w_iload_n C dX1_join_9 rfl ?_
    refine w_callN C dX1_join_10 (c_X6_entry hl IA_24 i24 ((g - 1 : Nat) : Int) (by omega)) mX6_entry sX6_entry lk_X1_110 rfl rfl ⟨by decide, by decide, by decide, by decide⟩ (Nat.le_of_ble_eq_true rfl) (fun _ _ h => h.elim) ⟨by decide, by decide⟩ (fun r_ M_ q10 => ?_)
    obtain ⟨rfl, rfl⟩ := q10
    rw [rd_ok (by omega)]
    refine w_iconst C dX1_join_13 ?_
    refine w_iadd C dX1_join_14 ?_
    refine w_callN C dX1_join_15 (c_X6_store hl IA_24 i24 ((g - 1 : Nat) : Int) _ (by omega)) mX6_store sX6_store lk_X1_160 rfl rfl ⟨by decide, by decide, by decide, by decide⟩ (Nat.le_of_ble_eq_true rfl) (fun _ _ h => h.elim) ⟨by decide, by decide⟩ (fun r_ M_ q15 => ?_)
    obtain ⟨q15, rfl⟩ := q15
    rw [wr_ok (by omega)] at q15
    subst q15
    refine w_aload_n C dX1_join_18 rfl ?_
    refine g_X1_34 C dX1_join_19 (by first | assumption | exact Nat.zero_lt_one | exact Nat.zero_lt_two | exact Nat.one_lt_two) ?_
    refine w_iload_n C dX1_join_22 rfl ?_
    refine w_iload_n C dX1_join_23 rfl ?_
    refine w_callN C dX1_join_24 (c_X6_store hl IA_25 i25 ((g - 1 : Nat) : Int) z (by omega)) mX6_store sX6_store lk_X1_160 rfl rfl ⟨by decide, by decide, by decide, by decide⟩ (Nat.le_of_ble_eq_true rfl) (fun _ _ h => h.elim) ⟨by decide, by decide⟩ (fun r_ M_ q24 => ?_)
    obtain ⟨q24, rfl⟩ := q24
    rw [wr_ok (by omega)] at q24
    subst q24
    refine w_vret C hr dX1_join_27 (⟨by rw [if_neg h0], rfl⟩) (by decide) (by decide)
theorem c_X1_leave (hl : l.stackTraces = false) {mi : Nat} (hmi : inD (cnt ns nt) 2 mi) (g : Nat) (hg : g ≤ 4) : Con l b0 yX1_leave cX1_leave 2 none 2 0 0 [aO 2 mi, aI ((g : Int) - 1)] ad (cnt ns nt) M (fun r9 M' => M' = (if g = 0 then M else uI M 24 mi (g - 1) (M.1 24 mi (g - 1) - 1)) ∧ r9 = none) noX := by
  have i24 : inD (cnt ns nt) 24 mi := hmi
  by_cases h0 : g = 0
  · subst h0
    refine Con.of hl pl_X1 (Nat.le_of_ble_eq_true rfl) ?_
    intro D cA p e s m args below meth c C hr
    refine w_aload_n C dX1_leave_0 rfl ?_
    refine g_X1_31 C dX1_leave_1 (by first | assumption | exact Nat.zero_lt_one | exact Nat.zero_lt_two | exact Nat.one_lt_two) ?_
    refine w_iload_n C dX1_leave_4 rfl ?_
    refine w_aload_n C dX1_leave_5 rfl ?_
    refine g_X1_31 C dX1_leave_6 (by first | assumption | exact Nat.zero_lt_one | exact Nat.zero_lt_two | exact Nat.one_lt_two) ?_
    refine w_iload_n C dX1_leave_9 rfl ?_
    refine w_callN C dX1_leave_10 (c_X6_entry hl IA_24 i24 (((0 : Nat) : Int) - 1) (by omega)) mX6_entry sX6_entry lk_X1_110 rfl rfl ⟨by decide, by decide, by decide, by decide⟩ (Nat.le_of_ble_eq_true rfl) (fun _ _ h => h.elim) ⟨by decide, by decide⟩ (fun r_ M_ q10 => ?_)
    obtain ⟨rfl, rfl⟩ := q10
    refine w_iconst C dX1_leave_13 ?_
    refine w_isub C dX1_leave_14 ?_
    refine w_callN C dX1_leave_15 (c_X6_store hl IA_24 i24 (((0 : Nat) : Int) - 1) _ (by omega)) mX6_store sX6_store lk_X1_160 rfl rfl ⟨by decide, by decide, by decide, by decide⟩ (Nat.le_of_ble_eq_true rfl) (fun _ _ h => h.elim) ⟨by decide, by decide⟩ (fun r_ M_ q15 => ?_)
    obtain ⟨q15, rfl⟩ := q15
    rw [wr_no (by omega)] at q15
    subst q15
    refine w_vret C hr dX1_leave_18 (⟨rfl, rfl⟩) (by decide) (by decide)
  · have e : (g : Int) - 1 = ((g - 1 : Nat) : Int) := by omega
    rw [e]
    refine Con.of hl pl_X1 (Nat.le_of_ble_eq_true rfl) ?_
    intro D cA p e s m args below meth c C hr
    refine w_aload_n C dX1_leave_0 rfl ?_
    refine g_X1_31 C dX1_leave_1 (by first | assumption | exact Nat.zero_lt_one | exact Nat.zero_lt_two | exact Nat.one_lt_two) ?_
    refine w_iload_n C dX1_leave_4 rfl ?_
    refine w_aload_n C dX1_leave_5 rfl ?_
    refine g_X1_31 C dX1_leave_6 (by first | assumption | exact Nat.zero_lt_one | exact Nat.zero_lt_two | exact Nat.one_lt_two) ?_
    refine w_iload_n C dX1_leave_9 rfl ?_
    refine w_callN C dX1_leave_10 (c_X6_entry hl IA_24 i24 ((g - 1 : Nat) : Int) (by omega)) mX6_entry sX6_entry lk_X1_110 rfl rfl ⟨by decide, by decide, by decide, by decide⟩ (Nat.le_of_ble_eq_true rfl) (fun _ _ h => h.elim) ⟨by decide, by decide⟩ (fun r_ M_ q10 => ?_)
    obtain ⟨rfl, rfl⟩ := q10
    rw [rd_ok (by omega)]
    refine w_iconst C dX1_leave_13 ?_
    refine w_isub C dX1_leave_14 ?_
    refine w_callN C dX1_leave_15 (c_X6_store hl IA_24 i24 ((g - 1 : Nat) : Int) _ (by omega)) mX6_store sX6_store lk_X1_160 rfl rfl ⟨by decide, by decide, by decide, by decide⟩ (Nat.le_of_ble_eq_true rfl) (fun _ _ h => h.elim) ⟨by decide, by decide⟩ (fun r_ M_ q15 => ?_)
    obtain ⟨q15, rfl⟩ := q15
    rw [wr_ok (by omega)] at q15
    subst q15
    refine w_vret C hr dX1_leave_18 (⟨by rw [if_neg h0], rfl⟩) (by decide) (by decide)
end Mk
