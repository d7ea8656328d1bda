-- MODEL
/-! the model: the queue of what is nested -/
section Mo
variable {l : Launch} {b0 : Nat → Prop} {ad : Ads} {M : Mem}
def kE (k : Nat) : Nat := k / 2 + 8 * (k % 2)
def QS (L : List Nat) (M1 : Mem) : Prop := L.length ≤ 4 → M1.1 40 0 41 = (L.length : Nat) ∧ ∀ t, t < L.length → M1.1 65 0 t = (kE (L.getD t 0) : Nat)
def rJ (w : Nat → Nat) (j : Nat) : List Nat := List.replicate (w (2 * j)) (2 * j) ++ List.replicate (w (2 * j + 1)) (2 * j + 1)
theorem rJ_len (w : Nat → Nat) (j : Nat) : (rJ w j).length = w (2 * j) + w (2 * j + 1) := by
  unfold rJ
  rw [List.length_append, List.length_replicate, List.length_replicate]
theorem rJ_get {w : Nat → Nat} {j i : Nat} (h : i < w (2 * j) + w (2 * j + 1)) : (rJ w j)[i]? = some (if i < w (2 * j) then 2 * j else 2 * j + 1) := by
  unfold rJ
  by_cases e : i < w (2 * j)
  · rw [if_pos e, List.getElem?_append_left (by rw [List.length_replicate]; exact e), List.getElem?_replicate, if_pos e]
  · rw [if_neg e, List.getElem?_append_right (by rw [List.length_replicate]; omega), List.length_replicate, List.getElem?_replicate, if_pos (by omega)]
theorem rJ_take {w : Nat → Nat} {j i : Nat} (h : i < w (2 * j) + w (2 * j + 1)) : (rJ w j).take (i + 1) = (rJ w j).take i ++ [if i < w (2 * j) then 2 * j else 2 * j + 1] := by
  rw [List.take_add_one, rJ_get h]
  rfl
theorem fqL_2 (w : Nat → Nat) (j : Nat) : fqL w (2 * (j + 1)) = fqL w (2 * j) ++ rJ w j := by
  show (fqL w (2 * j) ++ List.replicate (w (2 * j)) (2 * j)) ++ List.replicate (w (2 * j + 1)) (2 * j + 1) = _
  rw [List.append_assoc]
  rfl
theorem wn_p (S : Sg) (y j : Nat) : wnS S y (2 * j) = if fdS S = 1 ∧ paS S j = 0 then (ctS S y j + 1) / 2 else ctS S y j := by
  unfold wnS
  rw [if_pos (by omega), show 2 * j / 2 = j by omega]
theorem wn_m (S : Sg) (y j : Nat) : wnS S y (2 * j + 1) = if paS S j = 1 ∧ fdS S = 0 then ctS S y j else 0 := by
  unfold wnS
  rw [if_neg (by omega), show (2 * j + 1) / 2 = j by omega]
theorem fqL_z {w : Nat → Nat} {a : Nat} (h : ∀ k, a ≤ k → w k = 0) : ∀ d, fqL w (a + d) = fqL w a
  | 0 => rfl
  | d + 1 => by
    show fqL w (a + d) ++ List.replicate (w (a + d)) (a + d) = _
    rw [h (a + d) (by omega), List.replicate_zero, List.append_nil, fqL_z h d]
theorem QS.app {L : List Nat} {x : Nat} {M1 : Mem} (h : QS L M1) (h4 : L.length < 4) : QS (L ++ [x]) (uI (uI M1 65 0 L.length (kE x : Nat)) 40 0 41 ((L.length : Nat) + 1)) := by
  intro _
  obtain ⟨h1, h2⟩ := h (by omega)
  rw [List.length_append]
  refine ⟨?_, fun t ht => ?_⟩
  · rw [uI_eq]
    rfl
  · have ht : t < L.length + 1 := ht
    rw [uI_ne (by omega), getD_app1 _ _ _ ht, uI_get]
    by_cases e : t = L.length
    · rw [if_pos ⟨rfl, rfl, e⟩, if_pos e]
    · rw [if_neg (fun g => e g.2.2), if_neg e]
      exact h2 t (by omega)
theorem c_X7_queues (hl : l.stackTraces = false) {S : Sg} {P : List Pc} {nx : Nat} (hI : Inv S P nx) (hZ : InvZ S) (hR : RepMo S P nx M) (y : Nat) (hy : y < ntS S) : Con l b0 yX7_queues cX7_queues 8 (some .boolean) 1 0 0 [aO 40 0, aI y] ad cntM M (fun r M' => FrM M M' ∧ QS (fqL (wnS S y) 16) M' ∧ r = some (aI (b2 (1 ≤ nwS S y ∧ nwS S y ≤ 4)))) noX := by
  have hnt := hI.1.2.2.2.2.2.2.1
  have hns8 := hI.1.2.2.2.2.2.1
  have hf1 := hI.1.2.2.1
  obtain ⟨w, hw⟩ : ∃ w, wnS S y = w := ⟨_, rfl⟩
  have w4 : ∀ k, w k ≤ 4 := fun k => by rw [← hw]; exact wn4 hI y k
  have wz : ∀ k, 2 * nsS S ≤ k → w k = 0 := fun k hk => by
    obtain ⟨z1, z2, z3, z4, z5, z6, z7, z8, z9, z10⟩ := hZ.1 (k / 2) (by omega)
    rw [← hw]
    unfold wnS
    rw [z10 y]
    split <;> split <;> rfl
  have hL : fqL w 16 = fqL w (2 * nsS S) := by
    have e := fqL_z wz (16 - 2 * nsS S)
    rw [show 2 * nsS S + (16 - 2 * nsS S) = 16 by omega] at e
    exact e
  have hnw : nwS S y = (fqL w (2 * nsS S)).length := by
    rw [← hL, fqL_len, ← hw]
    rfl
  refine Con.of hl pl_X7 (Nat.le_of_ble_eq_true rfl) ?_
  intro D cA p e s m args below meth c C hr
  have outer : ∀ (d j : Nat) (M1 : Mem), j + d = nsS S → FrM M M1 → QS (fqL w (2 * j)) M1 → Wm p l e (rmd 1 0 0) s m args below meth c 8 D cA b0 0 0 (vx_MQ below (mQ D cA b0 ad cntM (fun r M' => FrM M M' ∧ QS (fqL (wnS S y) 16) M' ∧ r = some (aI (b2 (1 ≤ nwS S y ∧ nwS S y ≤ 4))))) (mX D cA b0 ad cntM noX) args s 0 0 b0) 9 [(0, aO 40 0), (1, aI y), (2, aI (b2 ((fqL w (2 * j)).length ≤ 4))), (3, aI j)] [] ad cntM M1 := by
    intro d
    induction d with
    | zero =>
      intro j M1 hj hF hQ
      obtain rfl : j = nsS S := by omega
      have e7 : M1.1 40 0 7 = nsS S := (hR.fr hF).1.2.2.2.2.2.1
      have b1 := b2_01 ((fqL w (2 * nsS S)).length ≤ 4)
      refine w_iload_n C dX7_queues_9 rfl ?_
      refine w_aload_n C dX7_queues_10 rfl ?_
      refine g_X7_143 C dX7_queues_11 (by first | assumption | exact Nat.zero_lt_one | exact Nat.zero_lt_two | exact Nat.one_lt_two) ?_
      rw [e7]
      refine w_icmp_ge C dX7_queues_14 (by omega) (by omega) (fun h14 => ?_) (fun h14 => ?_)
      · refine w_iload_n C dX7_queues_164 rfl ?_
        refine w_if_eq C dX7_queues_165 (by omega) (fun h165 => ?_) (fun h165 => ?_)
        · have y1 := b2_is0 h165
          refine w_iconst C dX7_queues_179 ?_
          refine w_iret C hr dX7_queues_180 (by first | exact narrow_z (b2_01 _) | exact narrow_z (by omega)) (⟨hF, by rw [hw, hL]; exact hQ, by rw [hnw, b2_f (by omega)]⟩) (by decide) (by decide)
        · have y1 := b2_n0 h165
          obtain ⟨q1, -⟩ := hQ y1
          refine w_aload_n C dX7_queues_168 rfl ?_
          refine g_X7_236 C dX7_queues_169 (by first | assumption | exact Nat.zero_lt_one | exact Nat.zero_lt_two | exact Nat.one_lt_two) ?_
          rw [q1]
          refine w_if_le C dX7_queues_172 (by omega) (fun h172 => ?_) (fun h172 => ?_)
          · refine w_iconst C dX7_queues_179 ?_
            refine w_iret C hr dX7_queues_180 (by first | exact narrow_z (b2_01 _) | exact narrow_z (by omega)) (⟨hF, by rw [hw, hL]; exact hQ, by rw [hnw, b2_f (by omega)]⟩) (by decide) (by decide)
          · refine w_iconst C dX7_queues_175 ?_
            refine w_goto C dX7_queues_176 ?_
            refine w_iret C hr dX7_queues_180 (by first | exact narrow_z (b2_01 _) | exact narrow_z (by omega)) (⟨hF, by rw [hw, hL]; exact hQ, by rw [hnw, b2_t (by omega)]⟩) (by decide) (by decide)
      · omega
    | succ d ih =>
      intro j M1 hj hF hQ
      have hR1 := hR.fr hF
      have e7 : M1.1 40 0 7 = nsS S := hR1.1.2.2.2.2.2.1
      have e3 : M1.1 40 0 3 = fdS S := hR1.1.2.2.1
      have ep : M1.1 42 0 j = paS S j := (hR1.2.2.1 j (by omega)).2.1
      have hp1 := (hI.1.2.2.2.2.2.2.2.2.2.1 j).1
      have ec : M1.1 61 0 (8 * y + j) = ctS S y j := hR1.2.2.2.2.2.1 y j (by omega) (by omega)
      have hc4 := hI.1.2.2.2.2.2.2.2.2.2.2.1 y j
      have ewp := wn_p S y j
      have ewm := wn_m S y j
      rw [hw] at ewp ewm
      have inner : ∀ (d2 i : Nat) (M2 : Mem), i + d2 = w (2 * j) + w (2 * j + 1) → FrM M M2 → QS (fqL w (2 * j) ++ (rJ w j).take i) M2 → Wm p l e (rmd 1 0 0) s m args below meth c 8 D cA b0 0 0 (vx_MQ below (mQ D cA b0 ad cntM (fun r M' => FrM M M' ∧ QS (fqL (wnS S y) 16) M' ∧ r = some (aI (b2 (1 ≤ nwS S y ∧ nwS S y ≤ 4))))) (mX D cA b0 ad cntM noX) args s 0 0 b0) 86 [(0, aO 40 0), (1, aI y), (2, aI (b2 ((fqL w (2 * j) ++ (rJ w j).take i).length ≤ 4))), (3, aI j), (5, aI (w (2 * j) : Nat)), (6, aI (w (2 * j + 1) : Nat)), (7, aI i)] [] ad cntM M2 := by
        have wp4 := w4 (2 * j)
        have wm4 := w4 (2 * j + 1)
        intro d2
        induction d2 with
        | zero =>
          intro i M2 hi hF2 hQ2
          have et : (rJ w j).take i = rJ w j := List.take_of_length_le (by rw [rJ_len]; omega)
          rw [et, ← fqL_2] at hQ2
          rw [et, ← fqL_2]
          refine w_iload C dX7_queues_86 rfl ?_
          refine w_iload C dX7_queues_88 rfl ?_
          refine w_iload C dX7_queues_90 rfl ?_
          refine w_iadd C dX7_queues_92 ?_
          refine w_icmp_ge C dX7_queues_93 (by omega) (by omega) (fun h93 => ?_) (fun h93 => ?_)
          · refine w_iinc C dX7_queues_158 rfl (by decide) ?_
            refine w_goto C dX7_queues_161 ?_
            exact Wm.lsub (lv' := [(0, aO 40 0), (1, aI y), (2, aI (b2 ((fqL w (2 * (j + 1))).length ≤ 4))), (3, aI ((j + 1 : Nat) : Int))]) ⟨rfl, rfl, rfl, rfl, trivial⟩ (ih (j + 1) M2 (by omega) hF2 hQ2)
          · omega
        | succ d2 ih2 =>
          intro i M2 hi hF2 hQ2
          have et := rJ_take (w := w) (j := j) (i := i) (by omega)
          have eL : fqL w (2 * j) ++ (rJ w j).take (i + 1) = (fqL w (2 * j) ++ (rJ w j).take i) ++ [if i < w (2 * j) then 2 * j else 2 * j + 1] := by rw [et, List.append_assoc]
          have ih3 := ih2 (i + 1)
          rw [eL] at ih3
          generalize fqL w (2 * j) ++ (rJ w j).take i = L at hQ2 ih3 ⊢
          have b1 := b2_01 (L.length ≤ 4)
          have eLl : ∀ x : Nat, (L ++ [x]).length = L.length + 1 := fun x => by rw [List.length_append]; rfl
          have no : ∀ (M3 : Mem), FrM M M3 → ¬ L.length < 4 → Wm p l e (rmd 1 0 0) s m args below meth c 8 D cA b0 0 0 (vx_MQ below (mQ D cA b0 ad cntM (fun r M' => FrM M M' ∧ QS (fqL (wnS S y) 16) M' ∧ r = some (aI (b2 (1 ≤ nwS S y ∧ nwS S y ≤ 4))))) (mX D cA b0 ad cntM noX) args s 0 0 b0) 152 [(0, aO 40 0), (1, aI y), (2, aI 0), (3, aI j), (5, aI (w (2 * j) : Nat)), (6, aI (w (2 * j + 1) : Nat)), (7, aI i)] [] ad cntM M3 := by
            intro M3 hF3 h4
            refine w_iinc C dX7_queues_152 rfl (by decide) ?_
            refine w_goto C dX7_queues_155 ?_
            refine Wm.lsub (lv' := [(0, aO 40 0), (1, aI y), (2, aI (b2 ((L ++ [if i < w (2 * j) then 2 * j else 2 * j + 1]).length ≤ 4))), (3, aI j), (5, aI (w (2 * j) : Nat)), (6, aI (w (2 * j + 1) : Nat)), (7, aI ((i + 1 : Nat) : Int))]) ⟨rfl, rfl, by rw [eLl, b2_f (by omega)]; rfl, rfl, rfl, rfl, rfl, trivial⟩ (ih3 M3 (by omega) hF3 (fun h => by rw [eLl] at h; omega))
          have t141 : ∀ x : Nat, (if i < w (2 * j) then 2 * j else 2 * j + 1) = x → L.length < 4 → M2.1 40 0 41 = (L.length : Nat) → Wm p l e (rmd 1 0 0) s m args below meth c 8 D cA b0 0 0 (vx_MQ below (mQ D cA b0 ad cntM (fun r M' => FrM M M' ∧ QS (fqL (wnS S y) 16) M' ∧ r = some (aI (b2 (1 ≤ nwS S y ∧ nwS S y ≤ 4))))) (mX D cA b0 ad cntM noX) args s 0 0 b0) 141 [(0, aO 40 0), (1, aI y), (2, aI 1), (3, aI j), (5, aI (w (2 * j) : Nat)), (6, aI (w (2 * j + 1) : Nat)), (7, aI i)] [aI (kE x : Nat), aI (L.length : Nat), aO 65 0] ad cntM M2 := by
            intro x hx h4 h41
            rw [hx] at ih3
            refine w_iastN (j := L.length) C dX7_queues_141 Nat.zero_lt_one IA_65 rfl (by omega) ?_
            refine w_aload_n C dX7_queues_142 rfl ?_
            refine w_dup C dX7_queues_143 rfl ?_
            refine g_X7_236 C dX7_queues_144 (by first | assumption | exact Nat.zero_lt_one | exact Nat.zero_lt_two | exact Nat.one_lt_two) ?_
            refine Wm.top (v' := aI (L.length : Nat)) (congrArg aI (by rw [uI_ne (by omega)]; exact h41)) ?_
            refine w_iconst C dX7_queues_147 ?_
            refine w_iadd C dX7_queues_148 ?_
            refine p_X7_236 C dX7_queues_149 (by first | assumption | exact Nat.zero_lt_one | exact Nat.zero_lt_two | exact Nat.one_lt_two) ?_
            refine w_iinc C dX7_queues_152 rfl (by decide) ?_
            refine w_goto C dX7_queues_155 ?_
            refine Wm.lsub (lv' := [(0, aO 40 0), (1, aI y), (2, aI (b2 ((L ++ [x]).length ≤ 4))), (3, aI j), (5, aI (w (2 * j) : Nat)), (6, aI (w (2 * j + 1) : Nat)), (7, aI ((i + 1 : Nat) : Int))]) ⟨rfl, rfl, by rw [eLl, b2_t (by omega)]; rfl, rfl, rfl, rfl, rfl, trivial⟩ (ih3 _ (by omega) ((hF2.uI (Or.inr (by omega))).uI (Or.inl ⟨rfl, Or.inr (by omega)⟩)) (hQ2.app h4))
          refine w_iload C dX7_queues_86 rfl ?_
          refine w_iload C dX7_queues_88 rfl ?_
          refine w_iload C dX7_queues_90 rfl ?_
          refine w_iadd C dX7_queues_92 ?_
          refine w_icmp_ge C dX7_queues_93 (by omega) (by omega) (fun h93 => ?_) (fun h93 => ?_)
          · omega
          · refine w_iload_n C dX7_queues_96 rfl ?_
            refine w_if_eq C dX7_queues_97 (by omega) (fun h97 => ?_) (fun h97 => ?_)
            · have y1 := b2_is0 h97
              refine w_iconst C dX7_queues_112 ?_
              refine w_istore_n C dX7_queues_113 (by decide) ?_
              refine w_iload_n C dX7_queues_114 rfl ?_
              refine w_if_eq_y C dX7_queues_115 (by omega) (by decide) ?_
              exact Wm.lsub (lv' := [(0, aO 40 0), (1, aI y), (2, aI 0), (3, aI j), (5, aI (w (2 * j) : Nat)), (6, aI (w (2 * j + 1) : Nat)), (7, aI i)]) ⟨rfl, rfl, rfl, rfl, rfl, rfl, rfl, trivial⟩ (no M2 hF2 (by omega))
            · have y1 := b2_n0 h97
              obtain ⟨q1, q2⟩ := hQ2 y1
              refine w_aload_n C dX7_queues_100 rfl ?_
              refine g_X7_236 C dX7_queues_101 (by first | assumption | exact Nat.zero_lt_one | exact Nat.zero_lt_two | exact Nat.one_lt_two) ?_
              refine w_iconst C dX7_queues_104 ?_
              rw [q1]
              refine w_icmp_ge C dX7_queues_105 (by omega) (by omega) (fun h105 => ?_) (fun h105 => ?_)
              · refine w_iconst C dX7_queues_112 ?_
                refine w_istore_n C dX7_queues_113 (by decide) ?_
                refine w_iload_n C dX7_queues_114 rfl ?_
                refine w_if_eq_y C dX7_queues_115 (by omega) (by decide) ?_
                exact Wm.lsub (lv' := [(0, aO 40 0), (1, aI y), (2, aI 0), (3, aI j), (5, aI (w (2 * j) : Nat)), (6, aI (w (2 * j + 1) : Nat)), (7, aI i)]) ⟨rfl, rfl, rfl, rfl, rfl, rfl, rfl, trivial⟩ (no M2 hF2 (by omega))
              · refine w_iconst C dX7_queues_108 ?_
                refine w_goto C dX7_queues_109 ?_
                refine w_istore_n C dX7_queues_113 (by decide) ?_
                refine w_iload_n C dX7_queues_114 rfl ?_
                refine w_if_eq_n C dX7_queues_115 (by omega) (by decide) ?_
                refine w_aload_n C dX7_queues_118 rfl ?_
                refine g_X7_85 C dX7_queues_119 (by first | assumption | exact Nat.zero_lt_one | exact Nat.zero_lt_two | exact Nat.one_lt_two) ?_
                refine w_aload_n C dX7_queues_122 rfl ?_
                refine g_X7_236 C dX7_queues_123 (by first | assumption | exact Nat.zero_lt_one | exact Nat.zero_lt_two | exact Nat.one_lt_two) ?_
                refine Wm.top (v' := aI (L.length : Nat)) (congrArg aI q1) ?_
                refine w_iload C dX7_queues_126 rfl ?_
                refine w_iload C dX7_queues_128 rfl ?_
                refine w_icmp_ge C dX7_queues_130 (by omega) (by omega) (fun h130 => ?_) (fun h130 => ?_)
                · refine w_iload_n C dX7_queues_137 rfl ?_
                  refine w_bipush (v := 8) C dX7_queues_138 rfl ?_
                  refine w_iadd C dX7_queues_140 ?_
                  refine Wm.top (v' := aI (kE (2 * j + 1) : Nat)) (congrArg aI (by unfold kE; omega)) ?_
                  exact Wm.lsub (lv' := [(0, aO 40 0), (1, aI y), (2, aI 1), (3, aI j), (5, aI (w (2 * j) : Nat)), (6, aI (w (2 * j + 1) : Nat)), (7, aI i)]) ⟨rfl, rfl, rfl, rfl, rfl, rfl, rfl, trivial⟩ (t141 (2 * j + 1) (if_neg (by omega)) (by omega) q1)
                · refine w_iload_n C dX7_queues_133 rfl ?_
                  refine w_goto C dX7_queues_134 ?_
                  refine Wm.top (v' := aI (kE (2 * j) : Nat)) (congrArg aI (by unfold kE; omega)) ?_
                  exact Wm.lsub (lv' := [(0, aO 40 0), (1, aI y), (2, aI 1), (3, aI j), (5, aI (w (2 * j) : Nat)), (6, aI (w (2 * j + 1) : Nat)), (7, aI i)]) ⟨rfl, rfl, rfl, rfl, rfl, rfl, rfl, trivial⟩ (t141 (2 * j) (if_pos (by omega)) (by omega) q1)
      have L81 : ∀ v : Int, v = (w (2 * j + 1) : Nat) → Wm p l e (rmd 1 0 0) s m args below meth c 8 D cA b0 0 0 (vx_MQ below (mQ D cA b0 ad cntM (fun r M' => FrM M M' ∧ QS (fqL (wnS S y) 16) M' ∧ r = some (aI (b2 (1 ≤ nwS S y ∧ nwS S y ≤ 4))))) (mX D cA b0 ad cntM noX) args s 0 0 b0) 81 [(0, aO 40 0), (1, aI y), (2, aI (b2 ((fqL w (2 * j)).length ≤ 4))), (3, aI j), (5, aI (w (2 * j) : Nat))] [aI v] ad cntM M1 := by
        intro v hv
        subst hv
        refine w_istore C dX7_queues_81 (by decide) ?_
        refine w_iconst C dX7_queues_83 ?_
        refine w_istore C dX7_queues_84 (by decide) ?_
        exact Wm.lsub (lv' := [(0, aO 40 0), (1, aI y), (2, aI (b2 ((fqL w (2 * j) ++ (rJ w j).take 0).length ≤ 4))), (3, aI j), (5, aI (w (2 * j) : Nat)), (6, aI (w (2 * j + 1) : Nat)), (7, aI ((0 : Nat) : Int))]) ⟨rfl, rfl, by rw [List.take_zero, List.append_nil]; rfl, rfl, rfl, rfl, rfl, trivial⟩ (inner _ 0 M1 (Nat.zero_add _) hF (by rw [List.take_zero, List.append_nil]; exact hQ))
      have L57 : ∀ v : Int, v = (w (2 * j) : Nat) → Wm p l e (rmd 1 0 0) s m args below meth c 8 D cA b0 0 0 (vx_MQ below (mQ D cA b0 ad cntM (fun r M' => FrM M M' ∧ QS (fqL (wnS S y) 16) M' ∧ r = some (aI (b2 (1 ≤ nwS S y ∧ nwS S y ≤ 4))))) (mX D cA b0 ad cntM noX) args s 0 0 b0) 57 [(0, aO 40 0), (1, aI y), (2, aI (b2 ((fqL w (2 * j)).length ≤ 4))), (3, aI j), (4, aI (ctS S y j : Nat))] [aI v] ad cntM M1 := by
        intro v hv
        subst hv
        refine w_istore C dX7_queues_57 (by decide) ?_
        refine w_aload_n C dX7_queues_59 rfl ?_
        refine g_X7_21 C dX7_queues_60 (by first | assumption | exact Nat.zero_lt_one | exact Nat.zero_lt_two | exact Nat.one_lt_two) ?_
        refine w_iload_n C dX7_queues_63 rfl ?_
        refine w_zaldN (j := j) C dX7_queues_64 Nat.zero_lt_one ZA_42 rfl (by omega) ?_
        rw [ep]
        refine w_if_eq C dX7_queues_65 (by omega) (fun h65 => ?_) (fun h65 => ?_)
        · refine w_iconst C dX7_queues_80 ?_
          exact Wm.lsub (lv' := [(0, aO 40 0), (1, aI y), (2, aI (b2 ((fqL w (2 * j)).length ≤ 4))), (3, aI j), (5, aI (w (2 * j) : Nat))]) ⟨rfl, rfl, rfl, rfl, rfl, trivial⟩ (L81 0 (by rw [ewm, if_neg (by omega)]; rfl))
        · refine w_aload_n C dX7_queues_68 rfl ?_
          refine g_X7_118 C dX7_queues_69 (by first | assumption | exact Nat.zero_lt_one | exact Nat.zero_lt_two | exact Nat.one_lt_two) ?_
          rw [e3]
          refine w_if_ne C dX7_queues_72 (by omega) (fun h72 => ?_) (fun h72 => ?_)
          · refine w_iconst C dX7_queues_80 ?_
            exact Wm.lsub (lv' := [(0, aO 40 0), (1, aI y), (2, aI (b2 ((fqL w (2 * j)).length ≤ 4))), (3, aI j), (5, aI (w (2 * j) : Nat))]) ⟨rfl, rfl, rfl, rfl, rfl, trivial⟩ (L81 0 (by rw [ewm, if_neg (by omega)]; rfl))
          · refine w_iload C dX7_queues_75 rfl ?_
            refine w_goto C dX7_queues_77 ?_
            exact Wm.lsub (lv' := [(0, aO 40 0), (1, aI y), (2, aI (b2 ((fqL w (2 * j)).length ≤ 4))), (3, aI j), (5, aI (w (2 * j) : Nat))]) ⟨rfl, rfl, rfl, rfl, rfl, trivial⟩ (L81 _ (by rw [ewm, if_pos (by omega)]))
      refine w_iload_n C dX7_queues_9 rfl ?_
      refine w_aload_n C dX7_queues_10 rfl ?_
      refine g_X7_143 C dX7_queues_11 (by first | assumption | exact Nat.zero_lt_one | exact Nat.zero_lt_two | exact Nat.one_lt_two) ?_
      rw [e7]
      refine w_icmp_ge C dX7_queues_14 (by omega) (by omega) (fun h14 => ?_) (fun h14 => ?_)
      · omega
      · refine w_aload_n C dX7_queues_17 rfl ?_
        refine g_X7_73 C dX7_queues_18 (by first | assumption | exact Nat.zero_lt_one | exact Nat.zero_lt_two | exact Nat.one_lt_two) ?_
        refine w_bipush (v := 8) C dX7_queues_21 rfl ?_
        refine w_iload_n C dX7_queues_23 rfl ?_
        refine w_imul C dX7_queues_24 ?_
        refine w_iload_n C dX7_queues_25 rfl ?_
        refine w_iadd C dX7_queues_26 ?_
        refine w_ialdN (j := 8 * y + j) C dX7_queues_27 Nat.zero_lt_one IA_61 (by omega) (by omega) ?_
        rw [ec]
        refine w_istore C dX7_queues_28 (by decide) ?_
        refine w_aload_n C dX7_queues_30 rfl ?_
        refine g_X7_118 C dX7_queues_31 (by first | assumption | exact Nat.zero_lt_one | exact Nat.zero_lt_two | exact Nat.one_lt_two) ?_
        rw [e3]
        refine w_if_eq C dX7_queues_34 (by omega) (fun h34 => ?_) (fun h34 => ?_)
        · refine w_iload C dX7_queues_55 rfl ?_
          exact Wm.lsub (lv' := [(0, aO 40 0), (1, aI y), (2, aI (b2 ((fqL w (2 * j)).length ≤ 4))), (3, aI j), (4, aI (ctS S y j : Nat))]) ⟨rfl, rfl, rfl, rfl, rfl, trivial⟩ (L57 _ (by rw [ewp, if_neg (by omega)]))
        · refine w_aload_n C dX7_queues_37 rfl ?_
          refine g_X7_21 C dX7_queues_38 (by first | assumption | exact Nat.zero_lt_one | exact Nat.zero_lt_two | exact Nat.one_lt_two) ?_
          refine w_iload_n C dX7_queues_41 rfl ?_
          refine w_zaldN (j := j) C dX7_queues_42 Nat.zero_lt_one ZA_42 rfl (by omega) ?_
          rw [ep]
          refine w_if_ne C dX7_queues_43 (by omega) (fun h43 => ?_) (fun h43 => ?_)
          · refine w_iload C dX7_queues_55 rfl ?_
            exact Wm.lsub (lv' := [(0, aO 40 0), (1, aI y), (2, aI (b2 ((fqL w (2 * j)).length ≤ 4))), (3, aI j), (4, aI (ctS S y j : Nat))]) ⟨rfl, rfl, rfl, rfl, rfl, trivial⟩ (L57 _ (by rw [ewp, if_neg (by omega)]))
          · refine w_iload C dX7_queues_46 rfl ?_
            refine w_iconst C dX7_queues_48 ?_
            refine w_iadd C dX7_queues_49 ?_
            refine w_iconst C dX7_queues_50 ?_
            refine w_idiv C dX7_queues_51 (by omega) (by omega) ?_
            refine w_goto C dX7_queues_52 ?_
            exact Wm.lsub (lv' := [(0, aO 40 0), (1, aI y), (2, aI (b2 ((fqL w (2 * j)).length ≤ 4))), (3, aI j), (4, aI (ctS S y j : Nat))]) ⟨rfl, rfl, rfl, rfl, rfl, trivial⟩ (L57 _ (by rw [ewp, if_pos (by omega)]; omega))
  refine w_aload_n C dX7_queues_0 rfl ?_
  refine w_iconst C dX7_queues_1 ?_
  refine p_X7_236 C dX7_queues_2 (by first | assumption | exact Nat.zero_lt_one | exact Nat.zero_lt_two | exact Nat.one_lt_two) ?_
  refine w_iconst C dX7_queues_5 ?_
  refine w_istore_n C dX7_queues_6 (by decide) ?_
  refine w_iconst C dX7_queues_7 ?_
  refine w_istore_n C dX7_queues_8 (by decide) ?_
  exact Wm.lsub (lv' := [(0, aO 40 0), (1, aI y), (2, aI (b2 ((fqL w (2 * 0)).length ≤ 4))), (3, aI ((0 : Nat) : Int))]) ⟨rfl, rfl, rfl, rfl, trivial⟩ (outer (nsS S) 0 _ (Nat.zero_add _) (FrM.rf.uI (Or.inl ⟨rfl, Or.inr (by omega)⟩)) (fun _ => ⟨rfl, fun t ht => absurd ht (Nat.not_lt_zero t)⟩))
end Mo
