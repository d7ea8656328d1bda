-- MODEL
/-! the model: spread -/
theorem sum2 (f g : Nat → Nat) (n : Nat) : sumN (fun j => f j + (g (2 * j) + g (2 * j + 1))) n = sumN f n + sumN g (2 * n) := by
  induction n with
  | zero => rfl
  | succ n ih =>
    rw [show 2 * (n + 1) = 2 * n + 1 + 1 by omega]
    show sumN (fun j => f j + (g (2 * j) + g (2 * j + 1))) n + (f n + (g (2 * n) + g (2 * n + 1))) = sumN f n + f n + (sumN g (2 * n) + g (2 * n) + g (2 * n + 1))
    rw [ih]
    omega
theorem eS_spj {S : Sg} {P : List Pc} {k n r j : Nat} (hj : j < n) : eS (spS S P k n r) j = eS S j + (itS S P k (2 * j) + itS S P k (2 * j + 1)) := by
  have hg : garS (spS S P k n r) j = garS S j := rfl
  unfold eS itS
  rw [hg, sp_14 (by omega), sp_14 (by omega), if_pos hj, if_pos hj, show 2 * j / 2 = j by omega, show 2 * j % 2 = 0 by omega, show (2 * j + 1) / 2 = j by omega, show (2 * j + 1) % 2 = 1 by omega]
  omega
theorem eS_spn {S : Sg} {P : List Pc} {k n r j : Nat} (hj : n ≤ j) : eS (spS S P k n r) j = eS S j := by
  have hg : garS (spS S P k n r) j = garS S j := rfl
  unfold eS
  rw [hg, sp_14 (by omega), sp_14 (by omega), if_neg (by omega), if_neg (by omega)]
theorem cut_sp {S : Sg} {P : List Pc} {k r : Nat} : cutS (spS S P k (nsS S) r) = cutS S + sumN (itS S P k) (2 * nsS S) := by
  unfold cutS
  rw [← sum2]
  exact sumN_cg fun j hj => eS_spj hj
def spI (S : Sg) (P : List Pc) (p r k : Nat) (MF M1 : Mem) : Prop :=
  (∀ s, s < 33 → s ≠ 31 → M1.1 40 0 s = MF.1 40 0 s) ∧ M1.1 40 0 31 = r ∧ M1.2.2.1 40 0 32 = (cutS S + sumN (itS S P p) k : Nat) ∧ (∀ q, 41 ≤ q → q ≤ 62 → q ≠ 52 → q ≠ 44 → ∀ j, M1.1 q 0 j = MF.1 q 0 j) ∧
  (∀ i, i < 16 → M1.1 52 0 i = (stS S (i / 2) (i % 2) + (if i < k then itS S P p i else 0) : Nat)) ∧ ∀ j, j < 8 → M1.1 44 0 j = b2 (0 < eS S j + (if 2 * j < k then itS S P p (2 * j) else 0) + (if 2 * j + 1 < k then itS S P p (2 * j + 1) else 0))
theorem spI.st {S : Sg} {P : List Pc} {p r k : Nat} {MF M1 : Mem} (h : spI S P p r k MF M1) (hk : k < 16) {x : Int} (hx : x = b2 (0 < eS S (k / 2) + (if 2 * (k / 2) < k + 1 then itS S P p (2 * (k / 2)) else 0) + (if 2 * (k / 2) + 1 < k + 1 then itS S P p (2 * (k / 2) + 1) else 0))) : spI S P p r (k + 1) MF (uI (uL (uI M1 52 0 k (M1.1 52 0 k + (itS S P p k : Nat))) 40 0 32 (M1.2.2.1 40 0 32 + (itS S P p k : Nat))) 44 0 (k / 2) x) := by
  obtain ⟨a1, a2, a3, a4, a5, a6⟩ := h
  refine ⟨fun s h1 h2 => ?_, ?_, ?_, fun q h1 h2 h3 h4 j => ?_, fun i hi => ?_, fun j hj => ?_⟩
  · rw [uI_get, if_neg (by omega), uL_i, uI_get, if_neg (by omega)]
    exact a1 s h1 h2
  · rw [uI_get, if_neg (by omega), uL_i, uI_get, if_neg (by omega)]
    exact a2
  · show (uL (uI M1 52 0 k (M1.1 52 0 k + (itS S P p k : Nat))) 40 0 32 (M1.2.2.1 40 0 32 + (itS S P p k : Nat))).2.2.1 40 0 32 = _
    rw [uL_get, if_pos ⟨rfl, rfl, rfl⟩, a3]
    show _ = ((cutS S + (sumN (itS S P p) k + itS S P p k) : Nat) : Int)
    omega
  · rw [uI_get, if_neg (by omega), uL_i, uI_get, if_neg (by omega)]
    exact a4 q h1 h2 h3 h4 j
  · rw [uI_get, if_neg (by omega), uL_i, uI_get]
    by_cases hik : i = k
    · subst hik
      rw [if_pos ⟨rfl, rfl, rfl⟩, a5 i hi, if_neg (Nat.lt_irrefl i), if_pos (Nat.lt_succ_self i)]
      omega
    · rw [if_neg (by omega), a5 i hi]
      by_cases hlt : i < k
      · rw [if_pos hlt, if_pos (by omega)]
      · rw [if_neg hlt, if_neg (by omega)]
  · rw [uI_get]
    by_cases hjk : j = k / 2
    · subst hjk
      rw [if_pos ⟨rfl, rfl, rfl⟩, hx]
    · rw [if_neg (by omega), uL_i, uI_get, if_neg (by omega), a6 j hj]
      have e1 : (2 * j < k + 1) ↔ 2 * j < k := by omega
      have e2 : (2 * j + 1 < k + 1) ↔ 2 * j + 1 < k := by omega
      simp only [e1, e2]
theorem spI.fin {S : Sg} {P : List Pc} {nx p r : Nat} {MF M1 : Mem} (hI : Inv S P nx) (hRF : RepMo S P nx MF) (h : spI S P p r (2 * nsS S) MF M1) : RepMo (spS S P p (nsS S) r) P nx M1 := by
  obtain ⟨a1, a2, a3, a4, a5, a6⟩ := h
  obtain ⟨⟨m1, m2, m3, m4, m5, m6, m7, m8, m9, m10, m11⟩, n2, n3, n4, n5, n6, n7⟩ := hRF
  have g6 := hI.1.2.2.2.2.2.1
  refine ⟨⟨?_, ?_, ?_, ?_, ?_, ?_, ?_, ?_, ?_, a2, ?_⟩, fun k hk => ?_, fun j hj => ?_, fun j k hj hk => ?_, ?_, fun y j hy hj => ?_, fun y hy => ?_⟩
  · rw [a1 1 (by decide) (by decide)]; exact m1
  · rw [a1 2 (by decide) (by decide)]; exact m2
  · rw [a1 3 (by decide) (by decide)]; exact m3
  · rw [a1 4 (by decide) (by decide)]; exact m4
  · rw [a1 5 (by decide) (by decide)]; exact m5
  · rw [a1 7 (by decide) (by decide)]; exact m6
  · rw [a1 17 (by decide) (by decide)]; exact m7
  · rw [a1 18 (by decide) (by decide)]; exact m8
  · rw [a1 28 (by decide) (by decide)]; exact m9
  · rw [a3, cut_sp]
  · rw [a4 41 (by decide) (by decide) (by decide) (by decide)]; exact n2 k hk
  · obtain ⟨b1, b2', b3, b4, b5, b6, b7, b8, b9⟩ := n3 j hj
    refine ⟨?_, ?_, ?_, ?_, ?_, ?_, ?_, ?_, ?_⟩
    · rw [a4 47 (by decide) (by decide) (by decide) (by decide)]; exact b1
    · rw [a4 42 (by decide) (by decide) (by decide) (by decide)]; exact b2'
    · rw [a4 48 (by decide) (by decide) (by decide) (by decide)]; exact b3
    · rw [a4 49 (by decide) (by decide) (by decide) (by decide)]; exact b4
    · rw [a4 50 (by decide) (by decide) (by decide) (by decide)]; exact b5
    · rw [a4 51 (by decide) (by decide) (by decide) (by decide)]; exact b6
    · rw [a6 j hj]
      by_cases hjn : j < nsS S
      · rw [eS_spj hjn, if_pos (by omega), if_pos (by omega), Nat.add_assoc]
      · rw [eS_spn (by omega), if_neg (by omega), if_neg (by omega)]
        rfl
    · rw [a5 (2 * j) (by omega), sp_14 (by omega), show 2 * j / 2 = j by omega, show 2 * j % 2 = 0 by omega]
      by_cases hjn : j < nsS S
      · rw [if_pos (by omega), if_pos hjn]
        unfold itS
        rw [show 2 * j / 2 = j by omega, show 2 * j % 2 = 0 by omega]
      · rw [if_neg (by omega), if_neg hjn, Nat.add_zero]
    · rw [a5 (2 * j + 1) (by omega), sp_14 (by omega), show (2 * j + 1) / 2 = j by omega, show (2 * j + 1) % 2 = 1 by omega]
      by_cases hjn : j < nsS S
      · rw [if_pos (by omega), if_pos hjn]
        unfold itS
        rw [show (2 * j + 1) / 2 = j by omega, show (2 * j + 1) % 2 = 1 by omega]
      · rw [if_neg (by omega), if_neg hjn, Nat.add_zero]
  · rw [a4 43 (by decide) (by decide) (by decide) (by decide)]; exact n4 j k hj hk
  · exact RepMM.cg (S := S) (fun p _ => ⟨rfl, rfl, rfl, rfl⟩) (fun _ => rfl) (n5.fr fun k hk j => a4 k (by omega) (by omega) (by omega) (by omega) j)
  · rw [a4 61 (by decide) (by decide) (by decide) (by decide)]; exact n6 y j hy hj
  · rw [a4 62 (by decide) (by decide) (by decide) (by decide)]; exact n7 y hy
theorem rows_le {S : Sg} {P : List Pc} {u : Nat} (h : u ≤ 50) : rowsS S P u ≤ 6000 := by
  have hkl : u * lenR S P ≤ 50 * 60 := Nat.mul_le_mul h (lenR_le S P)
  unfold rowsS
  split <;> omega
theorem RepMo.stk {S : Sg} {P : List Pc} {nx : Nat} {M : Mem} (h : RepMo S P nx M) (i : Nat) (hi : i < 16) : M.1 52 0 i = stS S (i / 2) (i % 2) := by
  have h := h.2.2.1 (i / 2) (by omega)
  rcases (show i % 2 = 0 ∨ i % 2 = 1 by omega) with q | q
  · have := h.2.2.2.2.2.2.2.1
    rw [show 2 * (i / 2) = i by omega] at this
    rw [q]; exact this
  · have := h.2.2.2.2.2.2.2.2
    rw [show 2 * (i / 2) + 1 = i by omega] at this
    rw [q]; exact this
section Mo
variable {l : Launch} {b0 : Nat → Prop} {ad : Ads} {M : Mem}
theorem c_X7_spread (hl : l.stackTraces = false) {S : Sg} {P : List Pc} {nx : Nat} (hI : Inv S P nx) (hnx : nx < 1000000) (hE : ∀ j, eS S j < 1000000000) (hR : RepMo S P nx M) (a : Int) (ha : -2147483648 ≤ a ∧ a ≤ 2147483647) : Con l b0 yX7_spread cX7_spread 4 (some .int) 3 0 0 [aO 40 0, aI a] ad cntM M (okM (oSpread a S P nx)) noX := by
  have e17 := hR.1.2.2.2.2.2.2.1
  have e31 := hR.1.2.2.2.2.2.2.2.2.2.1
  have hP := hI.2.2.1
  have g6 := hI.1.2.2.2.2.2.1
  have hrl := hI.1.2.2.2.2.2.2.2.2.2.2.2
  have b1 := b2_01 (1 ≤ a ∧ a ≤ 50)
  refine Con.of hl pl_X7 (Nat.le_of_ble_eq_true rfl) ?_
  intro D cA p e s m args below meth c C hr
  have L : ∀ (u : Nat), a = (u : Int) → 1 ≤ u → u ≤ 50 → P.length ≠ 0 → ¬ rlS S < rowsS S P u → ¬ muB S P u (2 * nsS S) = true → ∀ MF, RepMo S P nx MF → MF.1 40 0 0 = 0 → ∀ (b n : Nat) (M1 : Mem), n + b = 2 * nsS S → spI S P u (rlS S - rowsS S P u) n MF M1 → Wm p l e (rmd 3 0 0) s m args below meth c 4 D cA b0 0 0 (vx_MQ below (mQ D cA b0 ad cntM (okM (oSpread a S P nx))) (mX D cA b0 ad cntM noX) args s 0 0 b0) 75 [(0, aO 40 0), (1, aI u), (2, aI n)] [] ad cntM M1 := by
    intro u hau hu1 hu2 hp0 hro hmu MF hRF kT b
    induction b with
    | zero =>
      intro n M1 hn hS
      have c7 := hS.1 7 (by decide) (by decide)
      rw [hRF.1.2.2.2.2.2.1] at c7
      refine w_iload_n C dX7_spread_75 rfl ?_
      refine w_iconst C dX7_spread_76 ?_
      refine w_aload_n C dX7_spread_77 rfl ?_
      refine g_X7_143 C dX7_spread_78 (by first | assumption | exact Nat.zero_lt_one | exact Nat.zero_lt_two | exact Nat.one_lt_two) ?_
      refine w_imul C dX7_spread_81 ?_
      refine w_icmp_ge C dX7_spread_82 (by omega) (by omega) (fun h82 => ?_) (fun h82 => ?_)
      · refine w_aload_n C dX7_spread_162 rfl ?_
        refine g_X7_254 C dX7_spread_163 (by first | assumption | exact Nat.zero_lt_one | exact Nat.zero_lt_two | exact Nat.one_lt_two) ?_
        refine w_iret C hr dX7_spread_166 rfl (okM_of (v := ((rlS S - rowsS S P u : Nat) : Int)) (S' := spS S P u (nsS S) (rlS S - rowsS S P u)) (P' := P) (nx' := nx) (by unfold oSpread; rw [hau, if_neg (by omega), if_neg hp0, Int.toNat_natCast, if_neg (by rintro (q | q); exact hro q; exact q (by rw [muB_fit] at hmu; cases h : fitB S P u (nsS S) with | true => rfl | false => exact absurd (by rw [h]; rfl) hmu))]) (congrArg (fun z : Int => some (aI z)) hS.2.1) ((hS.1 0 (by decide) (by decide)).trans kT) (spI.fin hI hRF (by rw [show 2 * nsS S = n by omega]; exact hS))) (by decide) (by decide)
      · omega
    | succ b ih =>
      intro n M1 hn hS
      have c7 := hS.1 7 (by decide) (by decide)
      rw [hRF.1.2.2.2.2.2.1] at c7
      have d17 : M1.1 40 0 17 = P.length := (hS.1 17 (by decide) (by decide)).trans hRF.1.2.2.2.2.2.2.1
      have d3 : M1.1 40 0 3 = fdS S := (hS.1 3 (by decide) (by decide)).trans hRF.1.2.2.1
      have d42 : M1.1 42 0 (n / 2) = paS S (n / 2) := (hS.2.2.2.1 42 (by decide) (by decide) (by decide) (by decide) _).trans (hRF.2.2.1 (n / 2) (by omega)).2.1
      have dMM : RepMM S P M1 := hRF.2.2.2.2.1.fr fun k hk j => hS.2.2.2.1 k (by omega) (by omega) (by omega) (by omega) j
      have d44 := hS.2.2.2.2.2 (n / 2) (by omega)
      have hper := perS_le (S := S) hI.2.2.1 (n / 2) (n % 2)
      have hmul : u * perS S P (n / 2) (n % 2) ≤ 50 * 80 := Nat.mul_le_mul hu2 hper
      have hit : itS S P u n = u * perS S P (n / 2) (n % 2) := rfl
      have hEb := hE (n / 2)
      have d52 := hS.2.2.2.2.1 n (by omega)
      have b9 := b2_01 (0 < eS S (n / 2) + (if 2 * (n / 2) < n then itS S P u (2 * (n / 2)) else 0) + (if 2 * (n / 2) + 1 < n then itS S P u (2 * (n / 2) + 1) else 0))
      have htot : eS S (n / 2) + (if 2 * (n / 2) < n + 1 then itS S P u (2 * (n / 2)) else 0) + (if 2 * (n / 2) + 1 < n + 1 then itS S P u (2 * (n / 2) + 1) else 0) = eS S (n / 2) + (if 2 * (n / 2) < n then itS S P u (2 * (n / 2)) else 0) + (if 2 * (n / 2) + 1 < n then itS S P u (2 * (n / 2) + 1) else 0) + itS S P u n := by
        rcases (show n % 2 = 0 ∨ n % 2 = 1 by omega) with hm | hm
        · rw [if_pos (show 2 * (n / 2) < n + 1 by omega), if_neg (show ¬ 2 * (n / 2) + 1 < n + 1 by omega), if_neg (show ¬ 2 * (n / 2) < n by omega), if_neg (show ¬ 2 * (n / 2) + 1 < n by omega), show 2 * (n / 2) = n by omega]
          omega
        · rw [if_pos (show 2 * (n / 2) < n + 1 by omega), if_pos (show 2 * (n / 2) + 1 < n + 1 by omega), if_pos (show 2 * (n / 2) < n by omega), if_neg (show ¬ 2 * (n / 2) + 1 < n by omega), show 2 * (n / 2) + 1 = n by omega]
          omega
      have K155 : ∀ x : Int, (x = 0 ∨ x = 1) → x = b2 (0 < eS S (n / 2) + (if 2 * (n / 2) < n + 1 then itS S P u (2 * (n / 2)) else 0) + (if 2 * (n / 2) + 1 < n + 1 then itS S P u (2 * (n / 2) + 1) else 0)) → Wm p l e (rmd 3 0 0) s m args below meth c 4 D cA b0 0 0 (vx_MQ below (mQ D cA b0 ad cntM (okM (oSpread a S P nx))) (mX D cA b0 ad cntM noX) args s 0 0 b0) 155 [(0, aO 40 0), (1, aI u), (2, aI n)] [aI x, aI (n / 2 : Nat), aO 44 0] ad cntM (uL (uI M1 52 0 n (M1.1 52 0 n + (itS S P u n : Nat))) 40 0 32 (M1.2.2.1 40 0 32 + (itS S P u n : Nat))) := by
        intro x hx01 hx
        refine w_zastN (j := n / 2) C dX7_spread_155 (by first | assumption | exact Nat.zero_lt_one | exact Nat.zero_lt_two | exact Nat.one_lt_two) ZA_44 (by omega) (by omega) (by omega) ?_
        refine w_iinc C dX7_spread_156 rfl (by decide) ?_
        refine w_goto C dX7_spread_159 ?_
        exact Wm.lsub (lv' := [(0, aO 40 0), (1, aI u), (2, aI ((n + 1 : Nat) : Int))]) ⟨rfl, rfl, rfl, trivial⟩ (ih (n + 1) _ (by omega) (hS.st (by omega) hx))
      have K105 : Wm p l e (rmd 3 0 0) s m args below meth c 4 D cA b0 0 0 (vx_MQ below (mQ D cA b0 ad cntM (okM (oSpread a S P nx))) (mX D cA b0 ad cntM noX) args s 0 0 b0) 105 [(0, aO 40 0), (1, aI u), (2, aI n)] [aI (perS S P (n / 2) (n % 2) : Nat), aI u] ad cntM M1 := by
        refine w_imul C dX7_spread_105 ?_
        refine Wm.top (v' := aI (itS S P u n : Nat)) (congrArg aI (by rw [hit]; exact (Int.natCast_mul _ _).symm)) ?_
        refine w_istore_n C dX7_spread_106 (by decide) ?_
        refine w_aload_n C dX7_spread_107 rfl ?_
        refine g_X7_43 C dX7_spread_108 (by first | assumption | exact Nat.zero_lt_one | exact Nat.zero_lt_two | exact Nat.one_lt_two) ?_
        refine w_iload_n C dX7_spread_111 rfl ?_
        refine w_dup2 C dX7_spread_112 rfl rfl ?_
        refine w_ialdN (j := n) C dX7_spread_113 (by first | assumption | exact Nat.zero_lt_one | exact Nat.zero_lt_two | exact Nat.one_lt_two) IA_52 (by omega) (by omega) ?_
        refine w_iload_n C dX7_spread_114 rfl ?_
        refine w_iadd C dX7_spread_115 ?_
        refine w_iastN (j := n) C dX7_spread_116 (by first | assumption | exact Nat.zero_lt_one | exact Nat.zero_lt_two | exact Nat.one_lt_two) IA_52 (by omega) (by omega) ?_
        refine w_aload_n C dX7_spread_117 rfl ?_
        refine w_dup C dX7_spread_118 rfl ?_
        refine g_X7_268 C dX7_spread_119 (by first | assumption | exact Nat.zero_lt_one | exact Nat.zero_lt_two | exact Nat.one_lt_two) ?_
        refine w_iload_n C dX7_spread_122 rfl ?_
        refine w_i2l C dX7_spread_123 (by omega) ?_
        refine w_ladd C dX7_spread_124 ?_
        refine p_X7_268 C dX7_spread_125 (by first | assumption | exact Nat.zero_lt_one | exact Nat.zero_lt_two | exact Nat.one_lt_two) ?_
        refine w_aload_n C dX7_spread_128 rfl ?_
        refine g_X7_40 C dX7_spread_129 (by first | assumption | exact Nat.zero_lt_one | exact Nat.zero_lt_two | exact Nat.one_lt_two) ?_
        refine w_iload_n C dX7_spread_132 rfl ?_
        refine w_iconst C dX7_spread_133 ?_
        refine w_idiv C dX7_spread_134 (by omega) (by omega) ?_
        refine w_aload_n C dX7_spread_135 rfl ?_
        refine g_X7_40 C dX7_spread_136 (by first | assumption | exact Nat.zero_lt_one | exact Nat.zero_lt_two | exact Nat.one_lt_two) ?_
        refine w_iload_n C dX7_spread_139 rfl ?_
        refine w_iconst C dX7_spread_140 ?_
        refine w_idiv C dX7_spread_141 (by omega) (by omega) ?_
        refine w_zaldN (j := n / 2) C dX7_spread_142 (by first | assumption | exact Nat.zero_lt_one | exact Nat.zero_lt_two | exact Nat.one_lt_two) ZA_44 (by omega) (by omega) ?_
        rw [uL_i, uI_get, if_neg (by omega), d44]
        refine w_if_ne C dX7_spread_143 (by omega) (fun h143 => ?_) (fun h143 => ?_)
        · refine w_iconst C dX7_spread_150 ?_
          refine w_goto C dX7_spread_151 ?_
          refine Wm.lsub (lv' := [(0, aO 40 0), (1, aI u), (2, aI n)]) ⟨rfl, rfl, rfl, trivial⟩ (K155 _ (by omega) ?_)
          rw [htot]
          first | (rw [b2_t (by have := b2_n0 h143; omega)]) | (rw [b2_t (by omega)]) | (rw [b2_f (by have := b2_is0 (Decidable.not_not.mp h143); omega)])
        · refine w_iload_n C dX7_spread_146 rfl ?_
          refine w_if_le C dX7_spread_147 (by omega) (fun h147 => ?_) (fun h147 => ?_)
          · refine w_iconst C dX7_spread_154 ?_
            refine Wm.lsub (lv' := [(0, aO 40 0), (1, aI u), (2, aI n)]) ⟨rfl, rfl, rfl, trivial⟩ (K155 _ (by omega) ?_)
            rw [htot]
            first | (rw [b2_t (by have := b2_n0 h143; omega)]) | (rw [b2_t (by omega)]) | (rw [b2_f (by have := b2_is0 (Decidable.not_not.mp h143); omega)])
          · refine w_iconst C dX7_spread_150 ?_
            refine w_goto C dX7_spread_151 ?_
            refine Wm.lsub (lv' := [(0, aO 40 0), (1, aI u), (2, aI n)]) ⟨rfl, rfl, rfl, trivial⟩ (K155 _ (by omega) ?_)
            rw [htot]
            first | (rw [b2_t (by have := b2_n0 h143; omega)]) | (rw [b2_t (by omega)]) | (rw [b2_f (by have := b2_is0 (Decidable.not_not.mp h143); omega)])
      have K102 : ∀ z : Nat, z = n % 2 → Wm p l e (rmd 3 0 0) s m args below meth c 4 D cA b0 0 0 (vx_MQ below (mQ D cA b0 ad cntM (okM (oSpread a S P nx))) (mX D cA b0 ad cntM noX) args s 0 0 b0) 102 [(0, aO 40 0), (1, aI u), (2, aI n)] [aI z, aI (n / 2 : Nat), aO 40 0, aI u] ad cntM M1 := by
        intro z hz
        subst hz
        refine w_callV C dX7_spread_102 (c_X7_givenBy hl hI d17 d3 (n / 2) (by omega) d42 dMM (n % 2) (by omega)) mX7_givenBy vX7_givenBy lk_X7_258 (by first | assumption | exact Nat.zero_lt_one | exact Nat.zero_lt_two | exact Nat.one_lt_two) rfl rfl rfl rfl ⟨by decide, by decide, by decide, by decide⟩ (Nat.le_of_ble_eq_true rfl) (fun _ _ h => h.elim) ⟨by decide, by decide⟩ (fun r_ M_ q102 => ?_)
        obtain ⟨rfl, rfl⟩ := q102
        exact K105
      refine w_iload_n C dX7_spread_75 rfl ?_
      refine w_iconst C dX7_spread_76 ?_
      refine w_aload_n C dX7_spread_77 rfl ?_
      refine g_X7_143 C dX7_spread_78 (by first | assumption | exact Nat.zero_lt_one | exact Nat.zero_lt_two | exact Nat.one_lt_two) ?_
      refine w_imul C dX7_spread_81 ?_
      refine w_icmp_ge C dX7_spread_82 (by omega) (by omega) (fun h82 => ?_) (fun h82 => ?_)
      · omega
      · refine w_iload_n C dX7_spread_85 rfl ?_
        refine w_aload_n C dX7_spread_86 rfl ?_
        refine w_iload_n C dX7_spread_87 rfl ?_
        refine w_iconst C dX7_spread_88 ?_
        refine w_idiv C dX7_spread_89 (by omega) (by omega) ?_
        refine w_iload_n C dX7_spread_90 rfl ?_
        refine w_iconst C dX7_spread_91 ?_
        refine w_irem C dX7_spread_92 (by omega) (by omega) ?_
        refine w_iconst C dX7_spread_93 ?_
        refine w_icmp_ne C dX7_spread_94 (by omega) (by omega) (fun h94 => ?_) (fun h94 => ?_)
        · refine w_iconst C dX7_spread_101 ?_
          refine Wm.lsub (lv' := [(0, aO 40 0), (1, aI u), (2, aI n)]) ⟨rfl, rfl, rfl, trivial⟩ ?_
          first | exact K102 1 (by omega) | exact K102 0 (by omega)
        · refine w_iconst C dX7_spread_97 ?_
          refine w_goto C dX7_spread_98 ?_
          refine Wm.lsub (lv' := [(0, aO 40 0), (1, aI u), (2, aI n)]) ⟨rfl, rfl, rfl, trivial⟩ ?_
          first | exact K102 1 (by omega) | exact K102 0 (by omega)
  refine w_aload_n C dX7_spread_0 rfl ?_
  refine w_iload_n C dX7_spread_1 rfl ?_
  refine w_iconst C dX7_spread_2 ?_
  refine w_bipush (v := 50) C dX7_spread_3 rfl ?_
  refine w_callS C dX7_spread_5 (c_X7_in hl a 1 50 (by omega) (by omega) (by omega)) mX7_in sX7_in lk_X7_122 rfl rfl ⟨by decide, by decide, by decide, by decide⟩ (Nat.le_of_ble_eq_true rfl) (fun _ _ h => h.elim) ⟨by decide, by decide⟩ (fun r_ M_ q5 => ?_)
  obtain ⟨rfl, rfl⟩ := q5
  refine w_if_ne C dX7_spread_8 (by omega) (fun h8 => ?_) (fun h8 => ?_)
  · have y1 := b2_n0 h8
    refine w_aload_n C dX7_spread_15 rfl ?_
    refine g_X7_112 C dX7_spread_16 (by first | assumption | exact Nat.zero_lt_one | exact Nat.zero_lt_two | exact Nat.one_lt_two) ?_
    refine w_if_ne C dX7_spread_19 (by omega) (fun h19 => ?_) (fun h19 => ?_)
    · obtain ⟨u, rfl⟩ := Int.eq_ofNat_of_zero_le (show 0 ≤ a by omega)
      have hr6 : rowsS S P u ≤ 6000 := rows_le (by omega)
      have q3 := b2_01 (muB S P u (2 * nsS S) = true)
      refine w_aload_n C dX7_spread_26 rfl ?_
      refine w_iload_n C dX7_spread_27 rfl ?_
      refine w_callV C dX7_spread_28 (c_X7_takenFromRoll hl hI hnx hR u (by omega)) mX7_takenFromRoll vX7_takenFromRoll lk_X7_262 (by first | assumption | exact Nat.zero_lt_one | exact Nat.zero_lt_two | exact Nat.one_lt_two) rfl rfl rfl rfl ⟨by decide, by decide, by decide, by decide⟩ (Nat.le_of_ble_eq_true rfl) (fun _ _ h => h.elim) ⟨by decide, by decide⟩ (fun r_ M_ q28 => ?_)
      obtain ⟨rfl, rfl⟩ := q28
      refine w_aload_n C dX7_spread_31 rfl ?_
      refine g_X7_254 C dX7_spread_32 (by first | assumption | exact Nat.zero_lt_one | exact Nat.zero_lt_two | exact Nat.one_lt_two) ?_
      refine w_icmp_gt C dX7_spread_35 (by omega) (by omega) (fun h35 => ?_) (fun h35 => ?_)
      · refine w_iconst C dX7_spread_46 ?_
        refine w_goto C dX7_spread_47 ?_
        refine w_callV C dX7_spread_51 (c_X7_failsY hl 3 (by omega)) mX7_fails vX7_fails lk_X7_129 (by first | assumption | exact Nat.zero_lt_one | exact Nat.zero_lt_two | exact Nat.one_lt_two) rfl rfl rfl rfl ⟨by decide, by decide, by decide, by decide⟩ (Nat.le_of_ble_eq_true rfl) (fun _ _ h => h.elim) ⟨by decide, by decide⟩ (fun r_ MF q51 => ?_)
        obtain ⟨kF, kT, rfl⟩ := q51
        have hRF := hR.fr kF.fr
        refine w_if_eq_n C dX7_spread_54 (by omega) (by decide) ?_
        refine w_iconst C dX7_spread_57 ?_
        refine w_iret C hr dX7_spread_58 rfl (by
            first
            | exact okM_no (i := 1) (v := 0) (by unfold oSpread; rw [if_pos y1]) (by decide) rfl kT hRF
            | exact okM_no (i := 2) (v := 0) (by unfold oSpread; rw [if_neg (fun q => q y1), if_pos (by omega)]) (by decide) rfl kT hRF
            | exact okM_no (i := 3) (v := 0) (by unfold oSpread; rw [if_neg (fun q => q y1), if_neg (by omega), Int.toNat_natCast, if_pos (Or.inl (by omega))]) (by decide) rfl kT hRF
            | exact okM_no (i := 3) (v := 0) (by unfold oSpread; rw [if_neg (fun q => q y1), if_neg (by omega), Int.toNat_natCast, if_pos (Or.inr (fun z => by rw [muB_fit, z] at y2; cases y2))]) (by decide) rfl kT hRF) (by decide) (by decide)
      · refine w_aload_n C dX7_spread_38 rfl ?_
        refine w_iload_n C dX7_spread_39 rfl ?_
        refine w_callV C dX7_spread_40 (c_X7_isMuch hl hI hR u (by omega)) mX7_isMuch vX7_isMuch lk_X7_265 (by first | assumption | exact Nat.zero_lt_one | exact Nat.zero_lt_two | exact Nat.one_lt_two) rfl rfl rfl rfl ⟨by decide, by decide, by decide, by decide⟩ (Nat.le_of_ble_eq_true rfl) (fun _ _ h => h.elim) ⟨by decide, by decide⟩ (fun r_ M_ q40 => ?_)
        obtain ⟨rfl, rfl⟩ := q40
        refine w_if_eq C dX7_spread_43 (by omega) (fun h43 => ?_) (fun h43 => ?_)
        · have y2 : ¬ muB S P u (2 * nsS S) = true := b2_is0 h43
          refine w_iconst C dX7_spread_50 ?_
          refine w_callV C dX7_spread_51 (c_X7_failsN hl 0 (by omega)) mX7_fails vX7_fails lk_X7_129 (by first | assumption | exact Nat.zero_lt_one | exact Nat.zero_lt_two | exact Nat.one_lt_two) rfl rfl rfl rfl ⟨by decide, by decide, by decide, by decide⟩ (Nat.le_of_ble_eq_true rfl) (fun _ _ h => h.elim) ⟨by decide, by decide⟩ (fun r_ MF q51 => ?_)
          obtain ⟨kF, kT, rfl⟩ := q51
          have hRF := hR.fr kF.fr
          refine w_if_eq_y C dX7_spread_54 (by omega) (by decide) ?_
          have g31 := hRF.1.2.2.2.2.2.2.2.2.2.1
          refine w_aload_n C dX7_spread_59 rfl ?_
          refine w_dup C dX7_spread_60 rfl ?_
          refine g_X7_254 C dX7_spread_61 (by first | assumption | exact Nat.zero_lt_one | exact Nat.zero_lt_two | exact Nat.one_lt_two) ?_
          refine w_aload_n C dX7_spread_64 rfl ?_
          refine w_iload_n C dX7_spread_65 rfl ?_
          refine w_callV C dX7_spread_66 (c_X7_takenFromRoll hl hI hnx hRF u (by omega)) mX7_takenFromRoll vX7_takenFromRoll lk_X7_262 (by first | assumption | exact Nat.zero_lt_one | exact Nat.zero_lt_two | exact Nat.one_lt_two) rfl rfl rfl rfl ⟨by decide, by decide, by decide, by decide⟩ (Nat.le_of_ble_eq_true rfl) (fun _ _ h => h.elim) ⟨by decide, by decide⟩ (fun r_ M_ q66 => ?_)
          obtain ⟨rfl, rfl⟩ := q66
          refine w_isub C dX7_spread_69 ?_
          refine p_X7_254 C dX7_spread_70 (by first | assumption | exact Nat.zero_lt_one | exact Nat.zero_lt_two | exact Nat.one_lt_two) ?_
          refine w_iconst C dX7_spread_73 ?_
          refine w_istore_n C dX7_spread_74 (by decide) ?_
          refine Wm.lsub (lv' := [(0, aO 40 0), (1, aI u), (2, aI ((0 : Nat) : Int))]) ⟨rfl, rfl, rfl, trivial⟩ (L u rfl (by omega) (by omega) (by omega) (by omega) y2 _ hRF kT (2 * nsS S) 0 _ (by omega) ⟨fun s h1 h2 => by rw [uI_get, if_neg (by omega)], ?_, ?_, fun q h1 h2 h3 h4 j => by rw [uI_get, if_neg (by omega)], fun i hi => ?_, fun j hj => ?_⟩)
          · rw [uI_get, if_pos ⟨rfl, rfl, rfl⟩]; omega
          · exact hRF.1.2.2.2.2.2.2.2.2.2.2
          · rw [uI_get, if_neg (by omega), if_neg (Nat.not_lt_zero i), Nat.add_zero]; exact hRF.stk i hi
          · rw [uI_get, if_neg (by omega), if_neg (Nat.not_lt_zero _), if_neg (Nat.not_lt_zero _)]; exact (hRF.2.2.1 j hj).2.2.2.2.2.2.1
        · have y2 : muB S P u (2 * nsS S) = true := b2_n0 h43
          refine w_iconst C dX7_spread_46 ?_
          refine w_goto C dX7_spread_47 ?_
          refine w_callV C dX7_spread_51 (c_X7_failsY hl 3 (by omega)) mX7_fails vX7_fails lk_X7_129 (by first | assumption | exact Nat.zero_lt_one | exact Nat.zero_lt_two | exact Nat.one_lt_two) rfl rfl rfl rfl ⟨by decide, by decide, by decide, by decide⟩ (Nat.le_of_ble_eq_true rfl) (fun _ _ h => h.elim) ⟨by decide, by decide⟩ (fun r_ MF q51 => ?_)
          obtain ⟨kF, kT, rfl⟩ := q51
          have hRF := hR.fr kF.fr
          refine w_if_eq_n C dX7_spread_54 (by omega) (by decide) ?_
          refine w_iconst C dX7_spread_57 ?_
          refine w_iret C hr dX7_spread_58 rfl (by
              first
              | exact okM_no (i := 1) (v := 0) (by unfold oSpread; rw [if_pos y1]) (by decide) rfl kT hRF
              | exact okM_no (i := 2) (v := 0) (by unfold oSpread; rw [if_neg (fun q => q y1), if_pos (by omega)]) (by decide) rfl kT hRF
              | exact okM_no (i := 3) (v := 0) (by unfold oSpread; rw [if_neg (fun q => q y1), if_neg (by omega), Int.toNat_natCast, if_pos (Or.inl (by omega))]) (by decide) rfl kT hRF
              | exact okM_no (i := 3) (v := 0) (by unfold oSpread; rw [if_neg (fun q => q y1), if_neg (by omega), Int.toNat_natCast, if_pos (Or.inr (fun z => by rw [muB_fit, z] at y2; cases y2))]) (by decide) rfl kT hRF) (by decide) (by decide)
    · refine w_iconst C dX7_spread_22 ?_
      refine w_goto C dX7_spread_23 ?_
      refine w_callV C dX7_spread_51 (c_X7_failsY hl 2 (by omega)) mX7_fails vX7_fails lk_X7_129 (by first | assumption | exact Nat.zero_lt_one | exact Nat.zero_lt_two | exact Nat.one_lt_two) rfl rfl rfl rfl ⟨by decide, by decide, by decide, by decide⟩ (Nat.le_of_ble_eq_true rfl) (fun _ _ h => h.elim) ⟨by decide, by decide⟩ (fun r_ MF q51 => ?_)
      obtain ⟨kF, kT, rfl⟩ := q51
      have hRF := hR.fr kF.fr
      refine w_if_eq_n C dX7_spread_54 (by omega) (by decide) ?_
      refine w_iconst C dX7_spread_57 ?_
      refine w_iret C hr dX7_spread_58 rfl (by
          first
          | exact okM_no (i := 1) (v := 0) (by unfold oSpread; rw [if_pos y1]) (by decide) rfl kT hRF
          | exact okM_no (i := 2) (v := 0) (by unfold oSpread; rw [if_neg (fun q => q y1), if_pos (by omega)]) (by decide) rfl kT hRF
          | exact okM_no (i := 3) (v := 0) (by unfold oSpread; rw [if_neg (fun q => q y1), if_neg (by omega), Int.toNat_natCast, if_pos (Or.inl (by omega))]) (by decide) rfl kT hRF
          | exact okM_no (i := 3) (v := 0) (by unfold oSpread; rw [if_neg (fun q => q y1), if_neg (by omega), Int.toNat_natCast, if_pos (Or.inr (fun z => by rw [muB_fit, z] at y2; cases y2))]) (by decide) rfl kT hRF) (by decide) (by decide)
  · have y1 := b2_is0 (Decidable.not_not.mp h8)
    refine w_iconst C dX7_spread_11 ?_
    refine w_goto C dX7_spread_12 ?_
    refine w_callV C dX7_spread_51 (c_X7_failsY hl 1 (by omega)) mX7_fails vX7_fails lk_X7_129 (by first | assumption | exact Nat.zero_lt_one | exact Nat.zero_lt_two | exact Nat.one_lt_two) rfl rfl rfl rfl ⟨by decide, by decide, by decide, by decide⟩ (Nat.le_of_ble_eq_true rfl) (fun _ _ h => h.elim) ⟨by decide, by decide⟩ (fun r_ MF q51 => ?_)
    obtain ⟨kF, kT, rfl⟩ := q51
    have hRF := hR.fr kF.fr
    refine w_if_eq_n C dX7_spread_54 (by omega) (by decide) ?_
    refine w_iconst C dX7_spread_57 ?_
    refine w_iret C hr dX7_spread_58 rfl (by
        first
        | exact okM_no (i := 1) (v := 0) (by unfold oSpread; rw [if_pos y1]) (by decide) rfl kT hRF
        | exact okM_no (i := 2) (v := 0) (by unfold oSpread; rw [if_neg (fun q => q y1), if_pos (by omega)]) (by decide) rfl kT hRF
        | exact okM_no (i := 3) (v := 0) (by unfold oSpread; rw [if_neg (fun q => q y1), if_neg (by omega), Int.toNat_natCast, if_pos (Or.inl (by omega))]) (by decide) rfl kT hRF
        | exact okM_no (i := 3) (v := 0) (by unfold oSpread; rw [if_neg (fun q => q y1), if_neg (by omega), Int.toNat_natCast, if_pos (Or.inr (fun z => by rw [muB_fit, z] at y2; cases y2))]) (by decide) rfl kT hRF) (by decide) (by decide)
end Mo
