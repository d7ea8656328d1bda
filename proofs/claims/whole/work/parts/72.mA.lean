-- MODEL
/-! the model: make -/
def mkI (S : Sg) (y g k : Nat) (MF M1 : Mem) : Prop :=
  (∀ s, s < 33 → M1.1 40 0 s = MF.1 40 0 s) ∧ M1.2.2.1 = MF.2.2.1 ∧ (∀ q, 41 ≤ q → q ≤ 62 → q ≠ 52 → ∀ j, M1.1 q 0 j = MF.1 q 0 j) ∧
  ∀ j, j < 8 → M1.1 52 0 (2 * j) = (stS S j 0 : Int) - (if j < k then (g * ctS S y j : Nat) else 0 : Nat) ∧ M1.1 52 0 (2 * j + 1) = (stS S j 1 : Int) - (if j < k ∧ paS S j = 1 then (g * ctS S y j : Nat) else 0 : Nat)
theorem mkI.st {S : Sg} {y g k : Nat} {MF M1 : Mem} (h : mkI S y g k MF M1) {v w : Int} (hv : v = (stS S k 0 : Int) - (g * ctS S y k : Nat)) (hw : w = (stS S k 1 : Int) - (if paS S k = 1 then (g * ctS S y k : Nat) else 0 : Nat)) : mkI S y g (k + 1) MF (uI (uI M1 52 0 (2 * k) v) 52 0 (2 * k + 1) w) := by
  obtain ⟨a1, a2, a3, a4⟩ := h
  refine ⟨fun s h1 => ?_, a2, fun q h1 h2 h3 j => ?_, fun j hj => ⟨?_, ?_⟩⟩
  · rw [uI_get, if_neg (by omega), uI_get, if_neg (by omega)]; exact a1 s h1
  · rw [uI_get, if_neg (by omega), uI_get, if_neg (by omega)]; exact a3 q h1 h2 h3 j
  · rw [uI_get, if_neg (by omega), uI_get]
    by_cases hjk : j = k
    · subst hjk
      rw [if_pos ⟨rfl, rfl, rfl⟩, if_pos (Nat.lt_succ_self j)]
      exact hv
    · rw [if_neg (by omega), (a4 j hj).1]
      by_cases hlt : j < k
      · rw [if_pos hlt, if_pos (by omega)]
      · rw [if_neg hlt, if_neg (by omega)]
  · rw [uI_get]
    by_cases hjk : j = k
    · subst hjk
      rw [if_pos ⟨rfl, rfl, rfl⟩, hw]
      by_cases hp : paS S j = 1
      · rw [if_pos hp, if_pos ⟨Nat.lt_succ_self j, hp⟩]
      · rw [if_neg hp, if_neg (fun q => hp q.2)]
    · rw [if_neg (by omega), uI_get, if_neg (by omega), (a4 j hj).2]
      by_cases hlt : j < k ∧ paS S j = 1
      · rw [if_pos hlt, if_pos ⟨by omega, hlt.2⟩]
      · rw [if_neg hlt, if_neg (fun q => hlt ⟨by omega, q.2⟩)]
theorem mkI.fin {S : Sg} {P : List Pc} {nx y g : Nat} {MF M1 : Mem} {x : Int} (hI : Inv S P nx) (hZ : InvZ S) (hy : y < 4) (hok : okT S y g (nsS S)) (hRF : RepMo S P nx MF) (h : mkI S y g (nsS S) MF M1) (hx : x = (mdS S y : Int) + g) : RepMo (mkS S y g) P nx (uI M1 62 0 y x) := by
  obtain ⟨a1, a2, a3, a4⟩ := h
  obtain ⟨⟨m1, m2, m3, m4, m5, m6, m7, m8, m9, m10, m11⟩, n2, n3, n4, n5, n6, n7⟩ := hRF
  have g6 := hI.1.2.2.2.2.2.1
  have ag : ∀ f i q, f ≠ 14 → f ≠ 17 → mkS S y g f i q = S f i q := fun f i q h1 h2 => mk_ag h1 h2
  have hcut : cutS (mkS S y g) = cutS S := by
    unfold cutS
    rw [show nsS (mkS S y g) = nsS S from ag 6 0 0 (by decide) (by decide)]
    exact sumN_cg fun j _ => eS_mk hZ hy hok j
  refine ⟨⟨?_, ?_, ?_, ?_, ?_, ?_, ?_, ?_, ?_, ?_, ?_⟩, fun k hk => ?_, fun j hj => ?_, fun j k hj hk => ?_, ?_, fun y' j hy' hj => ?_, fun y' hy' => ?_⟩
  · rw [show wdS (mkS S y g) = wdS S from ag 0 0 0 (by decide) (by decide)]; exact (a1 1 (by decide)).trans m1
  · rw [show npS (mkS S y g) = npS S from ag 1 0 0 (by decide) (by decide)]; exact (a1 2 (by decide)).trans m2
  · rw [show fdS (mkS S y g) = fdS S from ag 2 0 0 (by decide) (by decide)]; exact (a1 3 (by decide)).trans m3
  · rw [show srS (mkS S y g) = srS S from ag 3 0 0 (by decide) (by decide)]; exact (a1 4 (by decide)).trans m4
  · rw [show nfS (mkS S y g) = nfS S from ag 4 0 0 (by decide) (by decide)]; exact (a1 5 (by decide)).trans m5
  · rw [show nsS (mkS S y g) = nsS S from ag 6 0 0 (by decide) (by decide)]; exact (a1 7 (by decide)).trans m6
  · exact (a1 17 (by decide)).trans m7
  · exact (a1 18 (by decide)).trans m8
  · rw [show ntS (mkS S y g) = ntS S from ag 15 0 0 (by decide) (by decide)]; exact (a1 28 (by decide)).trans m9
  · rw [show rlS (mkS S y g) = rlS S from ag 18 0 0 (by decide) (by decide)]; exact (a1 31 (by decide)).trans m10
  · rw [hcut]
    show M1.2.2.1 40 0 32 = _
    rw [a2]
    exact m11
  · rw [show flS (mkS S y g) k = flS S k from ag 5 0 k (by decide) (by decide)]; exact (a3 41 (by decide) (by decide) (by decide) k).trans (n2 k hk)
  · obtain ⟨b1, b2', b3, b4, b5, b6, b7, b8, b9⟩ := n3 j hj
    refine ⟨?_, ?_, ?_, ?_, ?_, ?_, ?_, ?_, ?_⟩
    · rw [show ruS (mkS S y g) j = ruS S j from ag 7 j 0 (by decide) (by decide)]; exact (a3 47 (by decide) (by decide) (by decide) j).trans b1
    · rw [show paS (mkS S y g) j = paS S j from ag 8 j 0 (by decide) (by decide)]; exact (a3 42 (by decide) (by decide) (by decide) j).trans b2'
    · rw [show szS (mkS S y g) j = szS S j from ag 10 j 0 (by decide) (by decide)]; exact (a3 48 (by decide) (by decide) (by decide) j).trans b3
    · rw [show gpS (mkS S y g) j = gpS S j from ag 11 j 0 (by decide) (by decide)]; exact (a3 49 (by decide) (by decide) (by decide) j).trans b4
    · rw [show mrS (mkS S y g) j = mrS S j from ag 12 j 0 (by decide) (by decide)]; exact (a3 50 (by decide) (by decide) (by decide) j).trans b5
    · rw [show mcS (mkS S y g) j = mcS S j from ag 13 j 0 (by decide) (by decide)]; exact (a3 51 (by decide) (by decide) (by decide) j).trans b6
    · rw [eS_mk hZ hy hok]; exact (a3 44 (by decide) (by decide) (by decide) j).trans b7
    · rw [mk_0]
      refine (a4 j hj).1.trans ?_
      by_cases hjn : j < nsS S
      · have := (hok j hjn).1
        rw [if_pos hjn, if_pos hjn]
        omega
      · rw [if_neg hjn, if_neg hjn]
        omega
    · rw [mk_1]
      refine (a4 j hj).2.trans ?_
      by_cases hjn : j < nsS S ∧ paS S j = 1
      · have := (hok j hjn.1).2 hjn.2
        rw [if_pos hjn, if_pos hjn]
        omega
      · rw [if_neg hjn, if_neg hjn]
        omega
  · rw [show drS (mkS S y g) j k = drS S j k from ag 9 j k (by decide) (by decide)]; exact (a3 43 (by decide) (by decide) (by decide) _).trans (n4 j k hj hk)
  · refine RepMM.cg (S := S) (fun p _ => ⟨?_, ag 11 _ 0 (by decide) (by decide), ag 12 _ 0 (by decide) (by decide), ag 13 _ 0 (by decide) (by decide)⟩) (fun _ => ag 3 0 0 (by decide) (by decide)) (n5.fr fun k hk j => ?_)
    · funext k
      unfold dB
      rw [show drS (mkS S y g) (pShp p) k = drS S (pShp p) k from ag 9 _ k (by decide) (by decide)]
    · rw [uI_get, if_neg (by omega)]
      exact a3 k (by omega) (by omega) (by omega) j
  · rw [show ctS (mkS S y g) y' j = ctS S y' j from ag 16 y' j (by decide) (by decide)]; exact (a3 61 (by decide) (by decide) (by decide) _).trans (n6 y' j hy' hj)
  · rw [mk_md, uI_get]
    by_cases hyy : y' = y
    · subst hyy
      rw [if_pos ⟨rfl, rfl, rfl⟩, if_pos rfl, hx]
      rfl
    · rw [if_neg (by omega), if_neg hyy, Nat.add_zero]
      exact (a3 62 (by decide) (by decide) (by decide) y').trans (n7 y' hy')
section Mo
variable {l : Launch} {b0 : Nat → Prop} {ad : Ads} {M : Mem}
theorem c_X7_make (hl : l.stackTraces = false) {S : Sg} {P : List Pc} {nx : Nat} (hI : Inv S P nx) (hZ : InvZ S) (hmd : ∀ y, mdS S y < 1000000) (hR : RepMo S P nx M) (a g : Int) (ha : -2147483648 ≤ a ∧ a ≤ 2147483647) (hg : -2147483648 ≤ g ∧ g ≤ 2147483647) : Con l b0 yX7_make cX7_make 5 (some .int) 3 0 0 [aO 40 0, aI a, aI g] ad cntM M (okM (oMake a g S P nx)) noX := by
  have g6 := hI.1.2.2.2.2.2.1
  have g7 := hI.1.2.2.2.2.2.2.1
  have b1 := b2_01 (0 ≤ a ∧ a < ntS S)
  have b3 := b2_01 (1 ≤ g ∧ g ≤ 99)
  refine Con.of hl pl_X7 (Nat.le_of_ble_eq_true rfl) ?_
  intro D cA p e s m args below meth c C hr
  have L : ∀ (u v : Nat), a = (u : Int) → g = (v : Int) → u < ntS S → 1 ≤ v → v ≤ 99 → takS S u ≠ 0 → v ≤ giN S u (nsS S) → ∀ MF, RepMo S P nx MF → MF.1 40 0 0 = 0 → ∀ (b n : Nat) (M1 : Mem), n + b = nsS S → mkI S u v n MF M1 → Wm p l e (rmd 3 0 0) s m args below meth c 5 D cA b0 0 0 (vx_MQ below (mQ D cA b0 ad cntM (okM (oMake a g S P nx))) (mX D cA b0 ad cntM noX) args s 0 0 b0) 64 [(0, aO 40 0), (1, aI u), (2, aI v), (3, aI n)] [] ad cntM M1 := by
    intro u v hau hgv hu hv1 hv2 ht hgi MF hRF kT b
    have hok := ((giN_iff (nsS S)).mp hgi).2
    induction b with
    | zero =>
      intro n M1 hn hS
      have c7 := (hS.1 7 (by decide)).trans hRF.1.2.2.2.2.2.1
      have c62 := (hS.2.2.1 62 (by decide) (by decide) (by decide) u).trans (hRF.2.2.2.2.2.2 u (by omega))
      have en : nsS S = n := by omega
      refine w_iload_n C dX7_make_64 rfl ?_
      refine w_aload_n C dX7_make_65 rfl ?_
      refine g_X7_143 C dX7_make_66 (by first | assumption | exact Nat.zero_lt_one | exact Nat.zero_lt_two | exact Nat.one_lt_two) ?_
      refine w_icmp_ge C dX7_make_69 (by omega) (by omega) (fun h69 => ?_) (fun h69 => ?_)
      · refine w_aload_n C dX7_make_134 rfl ?_
        refine g_X7_76 C dX7_make_135 (by first | assumption | exact Nat.zero_lt_one | exact Nat.zero_lt_two | exact Nat.one_lt_two) ?_
        refine w_iload_n C dX7_make_138 rfl ?_
        refine w_dup2 C dX7_make_139 rfl rfl ?_
        refine w_ialdN (j := u) C dX7_make_140 (by first | assumption | exact Nat.zero_lt_one | exact Nat.zero_lt_two | exact Nat.one_lt_two) IA_62 (by omega) (by omega) ?_
        refine w_iload_n C dX7_make_141 rfl ?_
        refine w_iadd C dX7_make_142 ?_
        refine w_iastN (j := u) C dX7_make_143 (by first | assumption | exact Nat.zero_lt_one | exact Nat.zero_lt_two | exact Nat.one_lt_two) IA_62 (by omega) (by omega) ?_
        refine w_aload_n C dX7_make_144 rfl ?_
        refine g_X7_76 C dX7_make_145 (by first | assumption | exact Nat.zero_lt_one | exact Nat.zero_lt_two | exact Nat.one_lt_two) ?_
        refine w_iload_n C dX7_make_148 rfl ?_
        refine w_ialdN (j := u) C dX7_make_149 (by first | assumption | exact Nat.zero_lt_one | exact Nat.zero_lt_two | exact Nat.one_lt_two) IA_62 (by omega) (by omega) ?_
        refine w_iret C hr dX7_make_150 rfl (by
            refine okM_of (v := (mdS S u : Int) + v) (S' := mkS S u v) (P' := P) (nx' := nx) (by unfold oMake; rw [hau, hgv, if_neg (by omega), if_neg (by omega), Int.toNat_natCast, Int.toNat_natCast, if_neg ht, if_neg (by omega)]) ?_ ((hS.1 0 (by decide)).trans kT) (mkI.fin hI hZ (by omega) hok hRF (by rw [en]; exact hS) (by rw [c62]))
            refine congrArg (fun z : Int => some (aI z)) ?_
            rw [uI_get, if_pos ⟨rfl, rfl, rfl⟩, c62]) (by decide) (by decide)
      · omega
    | succ b ih =>
      intro n M1 hn hS
      have c7 := (hS.1 7 (by decide)).trans hRF.1.2.2.2.2.2.1
      have c61 := (hS.2.2.1 61 (by decide) (by decide) (by decide) (8 * u + n)).trans (hRF.2.2.2.2.2.1 u n (by omega) (by omega))
      have c42 := (hS.2.2.1 42 (by decide) (by decide) (by decide) n).trans (hRF.2.2.1 n (by omega)).2.1
      have hpa := (hI.1.2.2.2.2.2.2.2.2.2.1 n).1
      have c52 := hS.2.2.2 n (by omega)
      rw [if_neg (Nat.lt_irrefl n), if_neg (fun q => Nat.lt_irrefl n q.1)] at c52
      refine w_iload_n C dX7_make_64 rfl ?_
      refine w_aload_n C dX7_make_65 rfl ?_
      refine g_X7_143 C dX7_make_66 (by first | assumption | exact Nat.zero_lt_one | exact Nat.zero_lt_two | exact Nat.one_lt_two) ?_
      refine w_icmp_ge C dX7_make_69 (by omega) (by omega) (fun h69 => ?_) (fun h69 => ?_)
      · omega
      · refine w_iload_n C dX7_make_72 rfl ?_
        refine w_aload_n C dX7_make_73 rfl ?_
        refine g_X7_73 C dX7_make_74 (by first | assumption | exact Nat.zero_lt_one | exact Nat.zero_lt_two | exact Nat.one_lt_two) ?_
        refine w_bipush (v := 8) C dX7_make_77 rfl ?_
        refine w_iload_n C dX7_make_79 rfl ?_
        refine w_imul C dX7_make_80 ?_
        refine w_iload_n C dX7_make_81 rfl ?_
        refine w_iadd C dX7_make_82 ?_
        refine w_ialdN (j := 8 * u + n) C dX7_make_83 (by first | assumption | exact Nat.zero_lt_one | exact Nat.zero_lt_two | exact Nat.one_lt_two) IA_61 (by omega) (by omega) ?_
        rw [c61]
        refine w_imul C dX7_make_84 ?_
        refine Wm.top (v' := aI (v * ctS S u n : Nat)) (congrArg aI (Int.natCast_mul _ _).symm) ?_
        refine w_istore C dX7_make_85 (by decide) ?_
        refine w_aload_n C dX7_make_87 rfl ?_
        refine g_X7_43 C dX7_make_88 (by first | assumption | exact Nat.zero_lt_one | exact Nat.zero_lt_two | exact Nat.one_lt_two) ?_
        refine w_iconst C dX7_make_91 ?_
        refine w_iload_n C dX7_make_92 rfl ?_
        refine w_imul C dX7_make_93 ?_
        refine w_dup2 C dX7_make_94 rfl rfl ?_
        refine w_ialdN (j := 2 * n) C dX7_make_95 (by first | assumption | exact Nat.zero_lt_one | exact Nat.zero_lt_two | exact Nat.one_lt_two) IA_52 (by omega) (by omega) ?_
        refine w_iload C dX7_make_96 rfl ?_
        refine w_isub C dX7_make_98 ?_
        refine w_iastN (j := 2 * n) C dX7_make_99 (by first | assumption | exact Nat.zero_lt_one | exact Nat.zero_lt_two | exact Nat.one_lt_two) IA_52 (by omega) (by omega) ?_
        refine w_aload_n C dX7_make_100 rfl ?_
        refine g_X7_43 C dX7_make_101 (by first | assumption | exact Nat.zero_lt_one | exact Nat.zero_lt_two | exact Nat.one_lt_two) ?_
        refine w_iconst C dX7_make_104 ?_
        refine w_iload_n C dX7_make_105 rfl ?_
        refine w_imul C dX7_make_106 ?_
        refine w_iconst C dX7_make_107 ?_
        refine w_iadd C dX7_make_108 ?_
        refine w_dup2 C dX7_make_109 rfl rfl ?_
        refine w_ialdN (j := 2 * n + 1) C dX7_make_110 (by first | assumption | exact Nat.zero_lt_one | exact Nat.zero_lt_two | exact Nat.one_lt_two) IA_52 (by omega) (by omega) ?_
        refine w_aload_n C dX7_make_111 rfl ?_
        refine g_X7_21 C dX7_make_112 (by first | assumption | exact Nat.zero_lt_one | exact Nat.zero_lt_two | exact Nat.one_lt_two) ?_
        refine w_iload_n C dX7_make_115 rfl ?_
        refine w_zaldN (j := n) C dX7_make_116 (by first | assumption | exact Nat.zero_lt_one | exact Nat.zero_lt_two | exact Nat.one_lt_two) ZA_42 (by omega) (by omega) ?_
        rw [uI_get, if_neg (by omega), c42]
        refine w_if_eq C dX7_make_117 (by omega) (fun h117 => ?_) (fun h117 => ?_)
        · refine w_iconst C dX7_make_125 ?_
          refine w_isub C dX7_make_126 ?_
          refine w_iastN (j := 2 * n + 1) C dX7_make_127 (by first | assumption | exact Nat.zero_lt_one | exact Nat.zero_lt_two | exact Nat.one_lt_two) IA_52 (by omega) (by omega) ?_
          refine w_iinc C dX7_make_128 rfl (by decide) ?_
          refine w_goto C dX7_make_131 ?_
          exact Wm.lsub (lv' := [(0, aO 40 0), (1, aI u), (2, aI v), (3, aI ((n + 1 : Nat) : Int))]) ⟨rfl, rfl, rfl, rfl, trivial⟩ (ih (n + 1) _ (by omega) (hS.st (by rw [c52.1]; rfl) (by rw [uI_get, if_neg (by omega), c52.2]; first | (rw [if_pos (by omega)]; rfl) | (rw [if_neg (by omega)]; rfl))))
        · refine w_iload C dX7_make_120 rfl ?_
          refine w_goto C dX7_make_122 ?_
          refine w_isub C dX7_make_126 ?_
          refine w_iastN (j := 2 * n + 1) C dX7_make_127 (by first | assumption | exact Nat.zero_lt_one | exact Nat.zero_lt_two | exact Nat.one_lt_two) IA_52 (by omega) (by omega) ?_
          refine w_iinc C dX7_make_128 rfl (by decide) ?_
          refine w_goto C dX7_make_131 ?_
          exact Wm.lsub (lv' := [(0, aO 40 0), (1, aI u), (2, aI v), (3, aI ((n + 1 : Nat) : Int))]) ⟨rfl, rfl, rfl, rfl, trivial⟩ (ih (n + 1) _ (by omega) (hS.st (by rw [c52.1]; rfl) (by rw [uI_get, if_neg (by omega), c52.2]; first | (rw [if_pos (by omega)]; rfl) | (rw [if_neg (by omega)]; rfl))))
  refine w_aload_n C dX7_make_0 rfl ?_
  refine w_aload_n C dX7_make_1 rfl ?_
  refine w_iload_n C dX7_make_2 rfl ?_
  refine w_callV C dX7_make_3 (c_X7_isStyle hl hI.1 hR a ha) mX7_isStyle vX7_isStyle lk_X7_230 (by first | assumption | exact Nat.zero_lt_one | exact Nat.zero_lt_two | exact Nat.one_lt_two) rfl rfl rfl rfl ⟨by decide, by decide, by decide, by decide⟩ (Nat.le_of_ble_eq_true rfl) (fun _ _ h => h.elim) ⟨by decide, by decide⟩ (fun r_ M_ q3 => ?_)
  obtain ⟨rfl, rfl⟩ := q3
  refine w_if_ne C dX7_make_6 (by omega) (fun h6 => ?_) (fun h6 => ?_)
  · have y1 := b2_n0 h6
    refine w_iload_n C dX7_make_13 rfl ?_
    refine w_iconst C dX7_make_14 ?_
    refine w_bipush (v := 99) C dX7_make_15 rfl ?_
    refine w_callS C dX7_make_17 (c_X7_in hl g 1 99 (by omega) (by omega) (by omega)) mX7_in sX7_in lk_X7_122 rfl rfl ⟨by decide, by decide, by decide, by decide⟩ (Nat.le_of_ble_eq_true rfl) (fun _ _ h => h.elim) ⟨by decide, by decide⟩ (fun r_ M_ q17 => ?_)
    obtain ⟨rfl, rfl⟩ := q17
    refine w_if_ne C dX7_make_20 (by omega) (fun h20 => ?_) (fun h20 => ?_)
    · have y2 := b2_n0 h20
      obtain ⟨u, rfl⟩ := Int.eq_ofNat_of_zero_le y1.1
      obtain ⟨v, rfl⟩ := Int.eq_ofNat_of_zero_le (show 0 ≤ g by omega)
      have ht := tak_le hI.1 u
      have hml := mkN_le S P u 0 (nsS S)
      refine w_aload_n C dX7_make_27 rfl ?_
      refine w_iload_n C dX7_make_28 rfl ?_
      refine w_callV C dX7_make_29 (c_X7_takenBy hl hI.1 hR u (by omega)) mX7_takenBy vX7_takenBy lk_X7_233 (by first | assumption | exact Nat.zero_lt_one | exact Nat.zero_lt_two | exact Nat.one_lt_two) rfl rfl rfl rfl ⟨by decide, by decide, by decide, by decide⟩ (Nat.le_of_ble_eq_true rfl) (fun _ _ h => h.elim) ⟨by decide, by decide⟩ (fun r_ M_ q29 => ?_)
      obtain ⟨rfl, rfl⟩ := q29
      refine w_if_ne C dX7_make_32 (by omega) (fun h32 => ?_) (fun h32 => ?_)
      · have hgm := giN_mk (P := P) (y := u) hI.1 (by omega)
        refine w_aload_n C dX7_make_39 rfl ?_
        refine w_iload_n C dX7_make_40 rfl ?_
        refine w_iconst C dX7_make_41 ?_
        refine w_callV C dX7_make_42 (c_X7_makes hl hI hR u (by omega) 0 (by omega)) mX7_makes vX7_makes lk_X7_275 (by first | assumption | exact Nat.zero_lt_one | exact Nat.zero_lt_two | exact Nat.one_lt_two) rfl rfl rfl rfl ⟨by decide, by decide, by decide, by decide⟩ (Nat.le_of_ble_eq_true rfl) (fun _ _ h => h.elim) ⟨by decide, by decide⟩ (fun r_ M_ q42 => ?_)
        obtain ⟨rfl, rfl⟩ := q42
        refine w_iload_n C dX7_make_45 rfl ?_
        refine w_icmp_ge C dX7_make_46 (by omega) (by omega) (fun h46 => ?_) (fun h46 => ?_)
        · refine w_iconst C dX7_make_53 ?_
          refine w_callV C dX7_make_54 (c_X7_failsN hl 0 (by omega)) mX7_fails vX7_fails lk_X7_129 (by first | assumption | exact Nat.zero_lt_one | exact Nat.zero_lt_two | exact Nat.one_lt_two) rfl rfl rfl rfl ⟨by decide, by decide, by decide, by decide⟩ (Nat.le_of_ble_eq_true rfl) (fun _ _ h => h.elim) ⟨by decide, by decide⟩ (fun r_ MF q54 => ?_)
          obtain ⟨kF, kT, rfl⟩ := q54
          have hRF := hR.fr kF.fr
          refine w_if_eq_y C dX7_make_57 (by omega) (by decide) ?_
          refine w_iconst C dX7_make_62 ?_
          refine w_istore_n C dX7_make_63 (by decide) ?_
          exact Wm.lsub (lv' := [(0, aO 40 0), (1, aI u), (2, aI v), (3, aI ((0 : Nat) : Int))]) ⟨rfl, rfl, rfl, rfl, trivial⟩ (L u v rfl rfl (by omega) (by omega) (by omega) (by omega) (by omega) _ hRF kT (nsS S) 0 _ (by omega) ⟨fun _ _ => rfl, rfl, fun _ _ _ _ _ => rfl, fun j hj => ⟨by rw [if_neg (Nat.not_lt_zero j)]; have := (hRF.2.2.1 j hj).2.2.2.2.2.2.2.1; omega, by rw [if_neg (fun q => Nat.not_lt_zero j q.1)]; have := (hRF.2.2.1 j hj).2.2.2.2.2.2.2.2; omega⟩⟩)
        · refine w_iconst C dX7_make_49 ?_
          refine w_goto C dX7_make_50 ?_
          refine w_callV C dX7_make_54 (c_X7_failsY hl 4 (by omega)) mX7_fails vX7_fails lk_X7_129 (by first | assumption | exact Nat.zero_lt_one | exact Nat.zero_lt_two | exact Nat.one_lt_two) rfl rfl rfl rfl ⟨by decide, by decide, by decide, by decide⟩ (Nat.le_of_ble_eq_true rfl) (fun _ _ h => h.elim) ⟨by decide, by decide⟩ (fun r_ MF q54 => ?_)
          obtain ⟨kF, kT, rfl⟩ := q54
          have hRF := hR.fr kF.fr
          refine w_if_eq_n C dX7_make_57 (by omega) (by decide) ?_
          refine w_iconst C dX7_make_60 ?_
          refine w_iret C hr dX7_make_61 rfl (by
              first
              | exact okM_no (i := 1) (v := 0) (by unfold oMake; rw [if_pos y1]) (by decide) rfl kT hRF
              | exact okM_no (i := 2) (v := 0) (by unfold oMake; rw [if_neg (by omega), if_pos y2]) (by decide) rfl kT hRF
              | exact okM_no (i := 3) (v := 0) (by unfold oMake; rw [if_neg (by omega), if_neg (by omega), Int.toNat_natCast, if_pos (by omega)]) (by decide) rfl kT hRF
              | exact okM_no (i := 4) (v := 0) (by unfold oMake; rw [if_neg (by omega), if_neg (by omega), Int.toNat_natCast, if_neg (by omega), if_pos (by omega)]) (by decide) rfl kT hRF) (by decide) (by decide)
      · refine w_iconst C dX7_make_35 ?_
        refine w_goto C dX7_make_36 ?_
        refine w_callV C dX7_make_54 (c_X7_failsY hl 3 (by omega)) mX7_fails vX7_fails lk_X7_129 (by first | assumption | exact Nat.zero_lt_one | exact Nat.zero_lt_two | exact Nat.one_lt_two) rfl rfl rfl rfl ⟨by decide, by decide, by decide, by decide⟩ (Nat.le_of_ble_eq_true rfl) (fun _ _ h => h.elim) ⟨by decide, by decide⟩ (fun r_ MF q54 => ?_)
        obtain ⟨kF, kT, rfl⟩ := q54
        have hRF := hR.fr kF.fr
        refine w_if_eq_n C dX7_make_57 (by omega) (by decide) ?_
        refine w_iconst C dX7_make_60 ?_
        refine w_iret C hr dX7_make_61 rfl (by
            first
            | exact okM_no (i := 1) (v := 0) (by unfold oMake; rw [if_pos y1]) (by decide) rfl kT hRF
            | exact okM_no (i := 2) (v := 0) (by unfold oMake; rw [if_neg (by omega), if_pos y2]) (by decide) rfl kT hRF
            | exact okM_no (i := 3) (v := 0) (by unfold oMake; rw [if_neg (by omega), if_neg (by omega), Int.toNat_natCast, if_pos (by omega)]) (by decide) rfl kT hRF
            | exact okM_no (i := 4) (v := 0) (by unfold oMake; rw [if_neg (by omega), if_neg (by omega), Int.toNat_natCast, if_neg (by omega), if_pos (by omega)]) (by decide) rfl kT hRF) (by decide) (by decide)
    · have y2 := b2_is0 (Decidable.not_not.mp h20)
      refine w_iconst C dX7_make_23 ?_
      refine w_goto C dX7_make_24 ?_
      refine w_callV C dX7_make_54 (c_X7_failsY hl 2 (by omega)) mX7_fails vX7_fails lk_X7_129 (by first | assumption | exact Nat.zero_lt_one | exact Nat.zero_lt_two | exact Nat.one_lt_two) rfl rfl rfl rfl ⟨by decide, by decide, by decide, by decide⟩ (Nat.le_of_ble_eq_true rfl) (fun _ _ h => h.elim) ⟨by decide, by decide⟩ (fun r_ MF q54 => ?_)
      obtain ⟨kF, kT, rfl⟩ := q54
      have hRF := hR.fr kF.fr
      refine w_if_eq_n C dX7_make_57 (by omega) (by decide) ?_
      refine w_iconst C dX7_make_60 ?_
      refine w_iret C hr dX7_make_61 rfl (by
          first
          | exact okM_no (i := 1) (v := 0) (by unfold oMake; rw [if_pos y1]) (by decide) rfl kT hRF
          | exact okM_no (i := 2) (v := 0) (by unfold oMake; rw [if_neg (by omega), if_pos y2]) (by decide) rfl kT hRF
          | exact okM_no (i := 3) (v := 0) (by unfold oMake; rw [if_neg (by omega), if_neg (by omega), Int.toNat_natCast, if_pos (by omega)]) (by decide) rfl kT hRF
          | exact okM_no (i := 4) (v := 0) (by unfold oMake; rw [if_neg (by omega), if_neg (by omega), Int.toNat_natCast, if_neg (by omega), if_pos (by omega)]) (by decide) rfl kT hRF) (by decide) (by decide)
  · have y1 := b2_is0 (Decidable.not_not.mp h6)
    refine w_iconst C dX7_make_9 ?_
    refine w_goto C dX7_make_10 ?_
    refine w_callV C dX7_make_54 (c_X7_failsY hl 1 (by omega)) mX7_fails vX7_fails lk_X7_129 (by first | assumption | exact Nat.zero_lt_one | exact Nat.zero_lt_two | exact Nat.one_lt_two) rfl rfl rfl rfl ⟨by decide, by decide, by decide, by decide⟩ (Nat.le_of_ble_eq_true rfl) (fun _ _ h => h.elim) ⟨by decide, by decide⟩ (fun r_ MF q54 => ?_)
    obtain ⟨kF, kT, rfl⟩ := q54
    have hRF := hR.fr kF.fr
    refine w_if_eq_n C dX7_make_57 (by omega) (by decide) ?_
    refine w_iconst C dX7_make_60 ?_
    refine w_iret C hr dX7_make_61 rfl (by
        first
        | exact okM_no (i := 1) (v := 0) (by unfold oMake; rw [if_pos y1]) (by decide) rfl kT hRF
        | exact okM_no (i := 2) (v := 0) (by unfold oMake; rw [if_neg (by omega), if_pos y2]) (by decide) rfl kT hRF
        | exact okM_no (i := 3) (v := 0) (by unfold oMake; rw [if_neg (by omega), if_neg (by omega), Int.toNat_natCast, if_pos (by omega)]) (by decide) rfl kT hRF
        | exact okM_no (i := 4) (v := 0) (by unfold oMake; rw [if_neg (by omega), if_neg (by omega), Int.toNat_natCast, if_neg (by omega), if_pos (by omega)]) (by decide) rfl kT hRF) (by decide) (by decide)
end Mo
