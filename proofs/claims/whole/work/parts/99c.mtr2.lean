-- MODEL
/-! the model: tries -/
section Mo
variable {l : Launch} {b0 : Nat → Prop} {ad : Ads} {M : Mem}
def TF (M M' : Mem) : Prop := (∀ k, k = 46 ∨ 65 ≤ k → ∀ i, M'.1 k 0 i = M.1 k 0 i) ∧ M'.1 40 0 41 = M.1 40 0 41
theorem TF.tr {M M' M'' : Mem} (h1 : TF M M') (h2 : TF M' M'') : TF M M'' := ⟨fun k hk i => (h2.1 k hk i).trans (h1.1 k hk i), h2.2.trans h1.2⟩
theorem TF.pu {M M' : Mem} (h : PuM M M') : TF M M' := ⟨fun k hk i => h.2.1 k (by omega) (by omega) i, h.1 41 (by omega) (by omega)⟩
theorem TF.ns {M M' : Mem} (h : NsM M M') : TF M M' := ⟨fun k hk i => h.2.1 k (by omega) (by omega) (by omega) i, h.1 41 (by omega)⟩
def QE (S : Sg) (qv : Nat → Nat) (N : Nat) (M : Mem) : Prop := M.1 40 0 41 = (N : Nat) ∧ ∀ t, t < N → M.1 65 0 t = (kE (qv t) : Nat) ∧ qv t < 2 * nsS S
theorem QE.tf {S : Sg} {qv : Nat → Nat} {N : Nat} {M M' : Mem} (h : QE S qv N M) (hT : TF M M') : QE S qv N M' := ⟨hT.2.trans h.1, fun t ht => ⟨(hT.1 65 (by omega) t).trans (h.2 t ht).1, (h.2 t ht).2⟩⟩
def TrS (l : Launch) (b0 : Nat → Prop) (ad : Ads) (S : Sg) (n : Nat) : Prop := ∀ (M : Mem) (qv : Nat → Nat) (N v v0 : Nat) (Q : List Pc) (q : Nat), Inv S Q q → InvC S → RepMo S Q q M → Q.length + n ≤ 8 → q + n ≤ 100 → N ≤ 4 → v < 2 ^ N → nMk N v = n → QE S qv N M → M.1 40 0 48 = (v0 : Nat) → v0 ≤ 61 →
  Con l b0 yX7_tries cX7_tries 4 none (n + 6) 0 (6 * 0) [aO 40 0, aI v] ad cntM M (fun r M' => RepMo S Q q M' ∧ TF M M' ∧ M'.1 40 0 48 = (min v0 (minN S n (wMk qv N v) Q) : Nat) ∧ r = none) noX
theorem c_X7_tries (hl : l.stackTraces = false) {S : Sg} : ∀ n : Nat, TrS l b0 ad S n := by
  intro n
  induction n with
  | zero =>
    intro M qv N v v0 Q q hI hC hR hQ hq hN hv hn hE h48 h61
    obtain rfl := bt_0 N (by omega) v hv hn
    have hl60 := lenR_le S Q
    refine Con.of hl pl_X7 (Nat.le_of_ble_eq_true rfl) ?_
    intro D cA p e s m args below meth c C hr
    refine w_iload_n C dX7_tries_0 rfl ?_
    refine w_if_ne C dX7_tries_1 (by omega) (fun h1 => ?_) (fun h1 => ?_)
    · omega
    · refine w_aload_n C dX7_tries_4 rfl ?_
      refine w_callV C dX7_tries_5 (c_X7_longest hl hI (by omega) hR) mX7_longest vX7_longest lk_X7_218 (by first | assumption | exact Nat.zero_lt_one | exact Nat.zero_lt_two | exact Nat.one_lt_two) rfl rfl rfl rfl ⟨by first | decide | (simp only [rmd]; omega), by first | decide | (simp only [rmd]; omega), by first | decide | (simp only [rmd]; omega), by first | decide | (simp only [rmd]; omega)⟩ (Nat.le_of_ble_eq_true rfl) (fun _ _ h => h.elim) ⟨by decide, by decide⟩ (fun r_ M_ q5 => ?_)
      obtain ⟨rfl, rfl⟩ := q5
      refine w_istore_n C dX7_tries_8 (by decide) ?_
      refine w_aload_n C dX7_tries_9 rfl ?_
      refine w_iload_n C dX7_tries_10 rfl ?_
      refine w_aload_n C dX7_tries_11 rfl ?_
      refine g_X7_239 C dX7_tries_12 (by first | assumption | exact Nat.zero_lt_one | exact Nat.zero_lt_two | exact Nat.one_lt_two) ?_
      rw [h48]
      have fin : ∀ z : Nat, z = min v0 (lenR S Q) → RepMo S Q q (uI M_ 40 0 48 z) ∧ TF M_ (uI M_ 40 0 48 z) ∧ (uI M_ 40 0 48 z).1 40 0 48 = (min v0 (minN S 0 (wMk qv N 0) Q) : Nat) ∧ (none : Option AV) = none := fun z hz => ⟨hR.fr (FrM.rf.uI (Or.inl ⟨rfl, Or.inr (by omega)⟩)), ⟨fun k hk i => uI_ne (by omega), uI_ne (by omega)⟩, by rw [uI_eq, hz]; rfl, rfl⟩
      refine w_icmp_ge C dX7_tries_15 (by omega) (by omega) (fun h15 => ?_) (fun h15 => ?_)
      · refine w_aload_n C dX7_tries_22 rfl ?_
        refine g_X7_239 C dX7_tries_23 (by first | assumption | exact Nat.zero_lt_one | exact Nat.zero_lt_two | exact Nat.one_lt_two) ?_
        refine Wm.top (v' := aI (v0 : Nat)) (congrArg aI h48) ?_
        refine p_X7_239 C dX7_tries_26 (by first | assumption | exact Nat.zero_lt_one | exact Nat.zero_lt_two | exact Nat.one_lt_two) ?_
        refine w_vret C hr dX7_tries_29 (fin v0 (by omega)) (by decide) (by decide)
      · refine w_iload_n C dX7_tries_18 rfl ?_
        refine w_goto C dX7_tries_19 ?_
        refine p_X7_239 C dX7_tries_26 (by first | assumption | exact Nat.zero_lt_one | exact Nat.zero_lt_two | exact Nat.one_lt_two) ?_
        refine w_vret C hr dX7_tries_29 (fin (lenR S Q) (by omega)) (by decide) (by decide)
  | succ n ih =>
    intro M qv N v v0 Q q hI hC hR hQ hq hN hv hn hE h48 h61
    have hv16 : v < 16 := Nat.lt_of_lt_of_le hv (Nat.le_trans (Nat.pow_le_pow_right (by decide) hN) (by decide))
    have hv0 : v ≠ 0 := fun e => by
      subst e
      have e0 : nMk N 0 = 0 := sumN_0.mpr fun i _ => by
        unfold bt
        rw [Nat.zero_div]
      omega
    have hns8 := hI.1.2.2.2.2.2.1
    have hcm := cT_min (S := S) (n := n) (qv := qv) (N := N) (v := v) (Q := Q) (fun t ht => by have := (hE.2 t ht).2; omega)
    refine Con.of hl pl_X7 (Nat.le_of_ble_eq_true rfl) ?_
    intro D cA p e s m args below meth c C hr
    have body : ∀ (d t : Nat) (M1 : Mem), t + d = N → RepMo S Q q M1 → TF M M1 → M1.1 40 0 48 = (min v0 (minF (cT S n qv N v Q) t) : Nat) → Wm p l e (rmd (n + 1 + 6) 0 0) s m args below meth c 4 D cA b0 0 0 (vx_MQ below (mQ D cA b0 ad cntM (fun r M' => RepMo S Q q M' ∧ TF M M' ∧ M'.1 40 0 48 = (min v0 (minN S (n + 1) (wMk qv N v) Q) : Nat) ∧ r = none)) (mX D cA b0 ad cntM noX) args s 0 0 b0) 32 [(0, aO 40 0), (1, aI v), (2, aI t)] [] ad cntM M1 := by
      intro d
      induction d with
      | zero =>
        intro t M1 ht hR1 hF h1
        obtain rfl : t = N := by omega
        have h41 := (hE.tf hF).1
        refine w_iload_n C dX7_tries_32 rfl ?_
        refine w_aload_n C dX7_tries_33 rfl ?_
        refine g_X7_236 C dX7_tries_34 (by first | assumption | exact Nat.zero_lt_one | exact Nat.zero_lt_two | exact Nat.one_lt_two) ?_
        rw [h41]
        refine w_icmp_ge C dX7_tries_37 (by omega) (by omega) (fun h37 => ?_) (fun h37 => ?_)
        · refine w_vret C hr dX7_tries_160 (⟨hR1, hF, by rw [h1, hcm], rfl⟩) (by decide) (by decide)
        · omega
      | succ d ihd =>
        intro t M1 ht hR1 hF h1
        have hE1 := hE.tf hF
        have h41 := hE1.1
        obtain ⟨h65, hk⟩ := hE1.2 t (by omega)
        have h61' := minF_le61 (cT S n qv N v Q) t
        have next : ∀ (M2 : Mem), RepMo S Q q M2 → TF M M2 → M2.1 40 0 48 = (min v0 (minF (cT S n qv N v Q) (t + 1)) : Nat) → Wm p l e (rmd (n + 1 + 6) 0 0) s m args below meth c 4 D cA b0 0 0 (vx_MQ below (mQ D cA b0 ad cntM (fun r M' => RepMo S Q q M' ∧ TF M M' ∧ M'.1 40 0 48 = (min v0 (minN S (n + 1) (wMk qv N v) Q) : Nat) ∧ r = none)) (mX D cA b0 ad cntM noX) args s 0 0 b0) 154 [(0, aO 40 0), (1, aI v), (2, aI t)] [] ad cntM M2 := by
          intro M2 hR2 hF2 h2
          refine w_iinc C dX7_tries_154 rfl (by decide) ?_
          refine w_goto C dX7_tries_157 ?_
          exact Wm.lsub (lv' := [(0, aO 40 0), (1, aI v), (2, aI ((t + 1 : Nat) : Int))]) ⟨rfl, rfl, rfl, trivial⟩ (ihd (t + 1) M2 (by omega) hR2 hF2 h2)
        have keep : cT S n qv N v Q t = 61 → min v0 (minF (cT S n qv N v Q) (t + 1)) = min v0 (minF (cT S n qv N v Q) t) := fun e => by
          show min v0 (min (minF (cT S n qv N v Q) t) (cT S n qv N v Q t)) = _
          rw [e, Nat.min_eq_left h61']
        refine w_iload_n C dX7_tries_32 rfl ?_
        refine w_aload_n C dX7_tries_33 rfl ?_
        refine g_X7_236 C dX7_tries_34 (by first | assumption | exact Nat.zero_lt_one | exact Nat.zero_lt_two | exact Nat.one_lt_two) ?_
        rw [h41]
        refine w_icmp_ge C dX7_tries_37 (by omega) (by omega) (fun h37 => ?_) (fun h37 => ?_)
        · omega
        · refine w_iload_n C dX7_tries_40 rfl ?_
          refine w_iload_n C dX7_tries_41 rfl ?_
          refine w_ishr C dX7_tries_42 (by omega) (by omega) ?_
          refine w_iconst C dX7_tries_43 ?_
          refine w_iand (x := v / 2 ^ t) (y := 1) C dX7_tries_44 (Nat.lt_of_le_of_lt (Nat.div_le_self _ _) (by omega)) (by decide) ?_
          rw [bt_and v hv16 t (by omega)]
          refine w_iconst C dX7_tries_45 ?_
          have hb01 := bt_01 v t
          refine w_icmp_ne C dX7_tries_46 (by omega) (by omega) (fun h46 => ?_) (fun h46 => ?_)
          · exact Wm.lsub (lv' := [(0, aO 40 0), (1, aI v), (2, aI t)]) ⟨rfl, rfl, rfl, trivial⟩ (next M1 hR1 hF (by rw [keep (by unfold cT; rw [if_neg (by omega)]), h1]))
          · have hb : bt v t = 1 := by omega
            have eT : cT S n qv N v Q t = kV S n (wMk qv N v) Q (qv t) := by
              unfold cT
              rw [if_pos hb]
            have hkE : kE (qv t) = qv t / 2 + 8 * (qv t % 2) := rfl
            have hz := zF_sp S Q (qv t / 2) (qv t % 2)
            have hF1fr : ∀ {M2 : Mem}, NsM M1 M2 → RepMo S Q q M2 := fun h => hR1.fr h.fr
            have t75 : ∀ b : Int, b = (qv t % 2 : Nat) → Wm p l e (rmd (n + 1 + 6) 0 0) s m args below meth c 4 D cA b0 0 0 (vx_MQ below (mQ D cA b0 ad cntM (fun r M' => RepMo S Q q M' ∧ TF M M' ∧ M'.1 40 0 48 = (min v0 (minN S (n + 1) (wMk qv N v) Q) : Nat) ∧ r = none)) (mX D cA b0 ad cntM noX) args s 0 0 b0) 75 [(0, aO 40 0), (1, aI v), (2, aI t)] [aI b, aI (qv t / 2 : Nat), aO 40 0] ad cntM M1 := by
              intro b hbb
              subst hbb
              refine w_callV C dX7_tries_75 (c_X7_isNested hl hI hC (by omega) hR1 (qv t / 2) (by omega) (qv t % 2) (by omega)) mX7_isNested vX7_isNested lk_X7_207 (by first | assumption | exact Nat.zero_lt_one | exact Nat.zero_lt_two | exact Nat.one_lt_two) rfl rfl rfl rfl ⟨by first | decide | (simp only [rmd]; omega), by first | decide | (simp only [rmd]; omega), by first | decide | (simp only [rmd]; omega), by first | decide | (simp only [rmd]; omega)⟩ (Nat.le_of_ble_eq_true rfl) (fun _ _ h => h.elim) ⟨by decide, by decide⟩ (fun r_ M2 q75 => ?_)
              obtain ⟨n1, ⟨rfl, hz2⟩ | ⟨z, rfl, hz1, hz2, n37, n38, n39, nC⟩⟩ := q75
              · refine w_if_eq_y C dX7_tries_78 (by omega) (by decide) ?_
                have e1 : zF S Q (qv t / 2) (qv t % 2) = -1 := hz.uniq hz2
                refine next M2 (hF1fr n1) (hF.tr (TF.ns n1)) ?_
                rw [n1.1 48 (by omega), h1, keep]
                rw [eT]
                unfold kV
                rw [if_neg (fun g => g e1)]
              · refine w_if_eq_n C dX7_tries_78 (by omega) (by decide) ?_
                have e1 : zF S Q (qv t / 2) (qv t % 2) = (z : Int) := hz.uniq hz2
                have hR2 := hF1fr n1
                have hE2 := hE1.tf (TF.ns n1)
                obtain ⟨h65b, -⟩ := hE2.2 t (by omega)
                have hf : reasonS S Q (qv t / 2) (z % 4) (qv t % 2) ((z / 4 / 12 : Nat) : Int) ((z / 4 % 12 : Nat) : Int) = 45 := by
                  rcases hz2 with ⟨g, -⟩ | ⟨s9, g1, g2, g3, -⟩
                  · omega
                  · obtain rfl : z = s9 := by omega
                    exact g3
                have epc : Q ++ [(q, qv t / 2, z % 4, z / 4 / 12, z / 4 % 12, qv t % 2)] = Q ++ [pcK q (qv t) (zF S Q (qv t / 2) (qv t % 2))] := by
                  rw [e1]
                  unfold pcK
                  rw [Int.toNat_natCast]
                have t119 : ∀ b : Int, b = (qv t % 2 : Nat) → Wm p l e (rmd (n + 1 + 6) 0 0) s m args below meth c 4 D cA b0 0 0 (vx_MQ below (mQ D cA b0 ad cntM (fun r M' => RepMo S Q q M' ∧ TF M M' ∧ M'.1 40 0 48 = (min v0 (minN S (n + 1) (wMk qv N v) Q) : Nat) ∧ r = none)) (mX D cA b0 ad cntM noX) args s 0 0 b0) 119 [(0, aO 40 0), (1, aI v), (2, aI t)] [aI b, aI (z / 4 % 12 : Nat), aI (z / 4 / 12 : Nat), aI (z % 4 : Nat), aI (qv t / 2 : Nat), aO 40 0] ad cntM M2 := by
                  intro b hbb
                  subst hbb
                  refine w_callV C dX7_tries_119 (c_X7_puts hl hI (by omega) hR2 (qv t / 2) (by omega) (z % 4) (qv t % 2) (by omega) (by omega) (z / 4 / 12) (z / 4 % 12) hf nC) mX7_puts vX7_puts lk_X7_194 (by first | assumption | exact Nat.zero_lt_one | exact Nat.zero_lt_two | exact Nat.one_lt_two) rfl rfl rfl rfl ⟨by first | decide | (simp only [rmd]; omega), by first | decide | (simp only [rmd]; omega), by first | decide | (simp only [rmd]; omega), by first | decide | (simp only [rmd]; omega)⟩ (Nat.le_of_ble_eq_true rfl) (fun _ _ h => h.elim) ⟨by decide, by decide⟩ (fun r_ M3 q119 => ?_)
                  obtain ⟨p1, p2, rfl⟩ := q119
                  rw [epc] at p1
                  have hI2 : Inv S (Q ++ [pcK q (qv t) (zF S Q (qv t / 2) (qv t % 2))]) (q + 1) := by
                    rw [← epc]
                    exact ⟨hI.1, PInv.put hI.1 hI.2.1 (by omega) (by omega) (by omega) hf, by rw [List.length_append]; show Q.length + 1 ≤ 40; omega, hI.2.2.2⟩
                  have hF3 := (hF.tr (TF.ns n1)).tr (TF.pu p2)
                  have h48c : M3.1 40 0 48 = (min v0 (minF (cT S n qv N v Q) t) : Nat) := by rw [p2.1 48 (by omega) (by omega), n1.1 48 (by omega), h1]
                  refine w_istore_n C dX7_tries_122 (by decide) ?_
                  refine w_aload_n C dX7_tries_123 rfl ?_
                  refine w_iload_n C dX7_tries_124 rfl ?_
                  refine w_iconst C dX7_tries_125 ?_
                  refine w_iload_n C dX7_tries_126 rfl ?_
                  refine w_ishl C dX7_tries_127 (by omega) ?_
                  refine w_iconst C dX7_tries_128 ?_
                  refine w_ixorZ C dX7_tries_129 (bt_xor t (by omega)) ?_
                  refine w_iandZ C dX7_tries_130 (bt_clr v hv16 t (by omega) hb) ?_
                  refine w_callV C dX7_tries_131 (ih M3 qv N (v - 2 ^ t) (min v0 (minF (cT S n qv N v Q) t)) _ (q + 1) hI2 hC p1 (by rw [List.length_append]; show Q.length + 1 + n ≤ 8; omega) (by omega) hN (Nat.lt_of_le_of_lt (Nat.sub_le _ _) hv) (by have := nMk_sub hN hv16 (show t < N by omega) hb; omega) (hE.tf hF3) h48c (Nat.le_trans (Nat.min_le_left _ _) h61)) mX7_tries vX7_tries lk_X7_242 (by first | assumption | exact Nat.zero_lt_one | exact Nat.zero_lt_two | exact Nat.one_lt_two) rfl rfl rfl rfl ⟨by first | decide | (simp only [rmd]; omega), by first | decide | (simp only [rmd]; omega), by first | decide | (simp only [rmd]; omega), by first | decide | (simp only [rmd]; omega)⟩ (Nat.le_of_ble_eq_true rfl) (fun _ _ h => h.elim) ⟨by decide, by decide⟩ (fun r_ M4 q131 => ?_)
                  obtain ⟨k1, k2, k3, rfl⟩ := q131
                  have e17 : M4.1 40 0 17 = ((Q.length + 1 : Nat) : Int) := by
                    rw [k1.1.2.2.2.2.2.2.1, List.length_append]
                    rfl
                  refine w_aload_n C dX7_tries_134 rfl ?_
                  refine w_aload_n C dX7_tries_135 rfl ?_
                  refine g_X7_112 C dX7_tries_136 (by first | assumption | exact Nat.zero_lt_one | exact Nat.zero_lt_two | exact Nat.one_lt_two) ?_
                  refine Wm.top (v' := aI ((Q.length + 1 : Nat) : Int)) (congrArg aI e17) ?_
                  refine w_iconst C dX7_tries_139 ?_
                  refine w_isub C dX7_tries_140 ?_
                  refine Wm.top (v' := aI (Q.length : Int)) (congrArg aI (by omega)) ?_
                  refine w_callV C dX7_tries_141 (c_X7_takes hl hI2 (by omega) k1 Q.length (pcK q (qv t) (zF S Q (qv t / 2) (qv t % 2))) (by rw [List.getElem?_append_right (Nat.le_refl _), Nat.sub_self]; rfl)) mX7_takes vX7_takes lk_X7_214 (by first | assumption | exact Nat.zero_lt_one | exact Nat.zero_lt_two | exact Nat.one_lt_two) rfl rfl rfl rfl ⟨by first | decide | (simp only [rmd]; omega), by first | decide | (simp only [rmd]; omega), by first | decide | (simp only [rmd]; omega), by first | decide | (simp only [rmd]; omega)⟩ (Nat.le_of_ble_eq_true rfl) (fun _ _ h => h.elim) ⟨by decide, by decide⟩ (fun r_ M5 q141 => ?_)
                  obtain ⟨m1, m2, rfl⟩ := q141
                  rw [erase_last] at m1
                  have e18 : M5.1 40 0 18 = ((q + 1 : Nat) : Int) := m1.1.2.2.2.2.2.2.2.1
                  refine w_aload_n C dX7_tries_144 rfl ?_
                  refine w_dup C dX7_tries_145 rfl ?_
                  refine g_X7_115 C dX7_tries_146 (by first | assumption | exact Nat.zero_lt_one | exact Nat.zero_lt_two | exact Nat.one_lt_two) ?_
                  refine Wm.top (v' := aI ((q + 1 : Nat) : Int)) (congrArg aI e18) ?_
                  refine w_iconst C dX7_tries_149 ?_
                  refine w_isub C dX7_tries_150 ?_
                  refine Wm.top (v' := aI (q : Int)) (congrArg aI (by omega)) ?_
                  refine p_X7_115 C dX7_tries_151 (by first | assumption | exact Nat.zero_lt_one | exact Nat.zero_lt_two | exact Nat.one_lt_two) ?_
                  have hR6 : RepMo S Q q (uI M5 40 0 18 (q : Int)) := by
                    obtain ⟨⟨a1, a2, a3, a4, a5, a6, a7, a8, a9, a10, a11⟩, b1, b2, b3, b4, b5, b6⟩ := m1
                    exact ⟨⟨a1, a2, a3, a4, a5, a6, a7, rfl, a9, a10, a11⟩, b1, b2, b3, b4, b5, b6⟩
                  refine Wm.lsub (lv' := [(0, aO 40 0), (1, aI v), (2, aI t)]) ⟨rfl, rfl, rfl, trivial⟩ (next _ hR6 (((hF3.tr k2).tr (TF.pu m2)).tr ⟨fun k hk i => uI_ne (by omega), uI_ne (by omega)⟩) ?_)
                  rw [uI_ne (by omega), m2.1 48 (by omega) (by omega), k3]
                  refine congrArg (fun z : Nat => (z : Int)) ?_
                  show _ = min v0 (min (minF (cT S n qv N v Q) t) (cT S n qv N v Q t))
                  rw [Nat.min_assoc, eT]
                  refine congrArg (fun z => min v0 (min (minF (cT S n qv N v Q) t) z)) ?_
                  unfold kV
                  rw [if_pos (by rw [e1]; omega)]
                  exact minN_cg (fun k _ => wMk_sub hN hv16 (by omega) hb k) (eqN.app rfl q 0 _ _)
                refine w_aload_n C dX7_tries_81 rfl ?_
                refine w_aload_n C dX7_tries_82 rfl ?_
                refine g_X7_85 C dX7_tries_83 (by first | assumption | exact Nat.zero_lt_one | exact Nat.zero_lt_two | exact Nat.one_lt_two) ?_
                refine w_iload_n C dX7_tries_86 rfl ?_
                refine w_ialdN (j := t) C dX7_tries_87 Nat.zero_lt_one IA_65 rfl (by omega) ?_
                rw [h65b]
                refine w_bipush (v := 8) C dX7_tries_88 rfl ?_
                refine w_irem C dX7_tries_90 (by omega) (by omega) ?_
                refine Wm.top (v' := aI (qv t / 2 : Nat)) (congrArg aI (by omega)) ?_
                refine w_aload_n C dX7_tries_91 rfl ?_
                refine g_X7_204 C dX7_tries_92 (by first | assumption | exact Nat.zero_lt_one | exact Nat.zero_lt_two | exact Nat.one_lt_two) ?_
                refine Wm.top (v' := aI (z % 4 : Nat)) (congrArg aI n39) ?_
                refine w_aload_n C dX7_tries_95 rfl ?_
                refine g_X7_198 C dX7_tries_96 (by first | assumption | exact Nat.zero_lt_one | exact Nat.zero_lt_two | exact Nat.one_lt_two) ?_
                refine Wm.top (v' := aI (z / 4 / 12 : Nat)) (congrArg aI n37) ?_
                refine w_aload_n C dX7_tries_99 rfl ?_
                refine g_X7_201 C dX7_tries_100 (by first | assumption | exact Nat.zero_lt_one | exact Nat.zero_lt_two | exact Nat.one_lt_two) ?_
                refine Wm.top (v' := aI (z / 4 % 12 : Nat)) (congrArg aI n38) ?_
                refine w_aload_n C dX7_tries_103 rfl ?_
                refine g_X7_85 C dX7_tries_104 (by first | assumption | exact Nat.zero_lt_one | exact Nat.zero_lt_two | exact Nat.one_lt_two) ?_
                refine w_iload_n C dX7_tries_107 rfl ?_
                refine w_ialdN (j := t) C dX7_tries_108 Nat.zero_lt_one IA_65 rfl (by omega) ?_
                rw [h65b]
                refine w_bipush (v := 8) C dX7_tries_109 rfl ?_
                refine w_icmp_lt C dX7_tries_111 (by omega) (by omega) (fun h111 => ?_) (fun h111 => ?_)
                · refine w_iconst C dX7_tries_118 ?_
                  exact Wm.lsub (lv' := [(0, aO 40 0), (1, aI v), (2, aI t)]) ⟨rfl, rfl, rfl, trivial⟩ (t119 0 (by omega))
                · refine w_iconst C dX7_tries_114 ?_
                  refine w_goto C dX7_tries_115 ?_
                  exact Wm.lsub (lv' := [(0, aO 40 0), (1, aI v), (2, aI t)]) ⟨rfl, rfl, rfl, trivial⟩ (t119 1 (by omega))
            refine w_aload_n C dX7_tries_49 rfl ?_
            refine w_aload_n C dX7_tries_50 rfl ?_
            refine g_X7_85 C dX7_tries_51 (by first | assumption | exact Nat.zero_lt_one | exact Nat.zero_lt_two | exact Nat.one_lt_two) ?_
            refine w_iload_n C dX7_tries_54 rfl ?_
            refine w_ialdN (j := t) C dX7_tries_55 Nat.zero_lt_one IA_65 rfl (by omega) ?_
            rw [h65]
            refine w_bipush (v := 8) C dX7_tries_56 rfl ?_
            refine w_irem C dX7_tries_58 (by omega) (by omega) ?_
            refine Wm.top (v' := aI (qv t / 2 : Nat)) (congrArg aI (by omega)) ?_
            refine w_aload_n C dX7_tries_59 rfl ?_
            refine g_X7_85 C dX7_tries_60 (by first | assumption | exact Nat.zero_lt_one | exact Nat.zero_lt_two | exact Nat.one_lt_two) ?_
            refine w_iload_n C dX7_tries_63 rfl ?_
            refine w_ialdN (j := t) C dX7_tries_64 Nat.zero_lt_one IA_65 rfl (by omega) ?_
            rw [h65]
            refine w_bipush (v := 8) C dX7_tries_65 rfl ?_
            refine w_icmp_lt C dX7_tries_67 (by omega) (by omega) (fun h67 => ?_) (fun h67 => ?_)
            · refine w_iconst C dX7_tries_74 ?_
              exact Wm.lsub (lv' := [(0, aO 40 0), (1, aI v), (2, aI t)]) ⟨rfl, rfl, rfl, trivial⟩ (t75 0 (by omega))
            · refine w_iconst C dX7_tries_70 ?_
              refine w_goto C dX7_tries_71 ?_
              exact Wm.lsub (lv' := [(0, aO 40 0), (1, aI v), (2, aI t)]) ⟨rfl, rfl, rfl, trivial⟩ (t75 1 (by omega))
    refine w_iload_n C dX7_tries_0 rfl ?_
    refine w_if_ne C dX7_tries_1 (by omega) (fun h1 => ?_) (fun h1 => ?_)
    · refine w_iconst C dX7_tries_30 ?_
      refine w_istore_n C dX7_tries_31 (by decide) ?_
      exact Wm.lsub (lv' := [(0, aO 40 0), (1, aI v), (2, aI ((0 : Nat) : Int))]) ⟨rfl, rfl, rfl, trivial⟩ (body N 0 M (Nat.zero_add _) hR ⟨fun _ _ _ => rfl, rfl⟩ (by rw [h48]; show (v0 : Int) = ((min v0 61 : Nat) : Int); omega))
    · omega
end Mo
