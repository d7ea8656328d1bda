/-! Marker: reads over the pieces -/
theorem pc_at {f : Nat → Nat} {mi : Nat} {S : Sg} {P : List Pc} {nx : Nat} {M : Mem} {ns nt : Nat} (hM : RepMF f mi S P nx M) (hmi : inD (cnt ns nt) 2 mi) (hP : P.length ≤ 40) {n : Nat} {q : Pc} (hq : P[n]? = some q) : n < P.length ∧ q ∈ P ∧ RepPc q (40 * mi + f n) M ∧ inD (cnt ns nt) 3 (40 * mi + f n) := by
  obtain ⟨a1, a2, ⟨b1, b2', b3⟩, a4⟩ := hM
  have h := (List.getElem?_eq_some_iff.mp hq).1
  refine ⟨h, List.mem_of_getElem? hq, b3 n q hq, ?_⟩
  have := (b1 n (by omega)).1
  have h2 : mi < 2 := hmi
  show 40 * mi + f n < 80
  omega
theorem lst_cons {b : Nat} {B : List Pc} (h : B.length = b + 1) : ∃ q B', B = q :: B' := by
  cases B with
  | nil => cases h
  | cons q B' => exact ⟨q, B', rfl⟩
/-- one piece covers a cell -/
theorem cv_rc (S : Sg) (p : Pc) (u v : Nat) : b2 (0 ≤ (u : Int) - pRow p ∧ (u : Int) - pRow p < 5 ∧ 0 ≤ (v : Int) - pCol p ∧ (v : Int) - pCol p < 5 ∧ nc (dB S (pShp p)) (pTrn p) (pMir p) ((u : Int) - pRow p).toNat ((v : Int) - pCol p).toNat = true) = b2 (cv S p u v = true) := by
  have e : (0 ≤ (u : Int) - pRow p ∧ (u : Int) - pRow p < 5 ∧ 0 ≤ (v : Int) - pCol p ∧ (v : Int) - pCol p < 5 ∧ nc (dB S (pShp p)) (pTrn p) (pMir p) ((u : Int) - pRow p).toNat ((v : Int) - pCol p).toNat = true) ↔ cv S p u v = true := by
    rw [cv_iff]
    constructor
    · rintro ⟨h1, h2, h3, h4, h5⟩
      exact ⟨_, _, by omega, by omega, h5⟩
    · rintro ⟨r', c', e1, e2, h5⟩
      have h6 := nc_lt h5
      refine ⟨by omega, by omega, by omega, by omega, ?_⟩
      rw [show ((u : Int) - pRow p).toNat = r' by omega, show ((v : Int) - pCol p).toNat = c' by omega]
      exact h5
  by_cases h : cv S p u v = true
  · rw [b2_t h, b2_t (e.mpr h)]
  · rw [b2_f h, b2_f (fun h9 => h (e.mp h9))]
theorem oi_dm {t mi : Nat} (h1 : t < 4) (h2 : mi ≤ 1) : (t + 4 * mi) < 8 ∧ (t + 4 * mi) % 4 = t ∧ (t + 4 * mi) / 4 = mi := by omega
theorem ou_at {S : Sg} {M : Mem} {j t mi ns nt : Nat} (hSh : RepSh S M) (hj : j < nsS S) (hns : nsS S ≤ ns) (ht : t < 4) (hm : mi ≤ 1) (hz : 0 < szS S j) : inD (cnt ns nt) 5 (8 * j + (t + 4 * mi)) ∧ inD (cnt ns nt) 31 (8 * j + (t + 4 * mi)) ∧ (∀ r, r < 5 → M.1 31 (8 * j + (t + 4 * mi)) r = (bitsN (nc (dB S j) t mi r) 5 : Nat)) ∧ M.1 5 (8 * j + (t + 4 * mi)) 3 = hgt (dB S j) t mi ∧ M.1 5 (8 * j + (t + 4 * mi)) 4 = wid (dB S j) t mi ∧ M.1 5 (8 * j + (t + 4 * mi)) 5 = mkR S j t mi := by
  obtain ⟨e1, e2, e3⟩ := oi_dm ht hm
  obtain ⟨-, -, ho⟩ := hSh j hj
  obtain ⟨-, -, -, h3⟩ := ho _ e1
  obtain ⟨h4, h5, h6, h7⟩ := h3 hz
  rw [e2, e3] at h4 h5 h6 h7
  refine ⟨?_, ?_, h4, h5, h6, h7⟩
  · show 8 * j + (t + 4 * mi) < 8 * ns
    omega
  · show 8 * j + (t + 4 * mi) < 8 * ns
    omega
section Mk
variable {l : Launch} {b0 : Nat → Prop} {ad : Ads} {ns nt : Nat} {M : Mem}
theorem c_X3_covers (hl : l.stackTraces = false) {S : Sg} {q : Pc} {id : Nat} (hid : inD (cnt ns nt) 3 id) (hq : RepPc q id M) (hSh : RepSh S M) (hns : nsS S ≤ ns) (hq1 : pShp q < nsS S) (hq2 : 0 < szS S (pShp q)) (hq3 : pTrn q < 4) (hq4 : pMir q ≤ 1) (u v : Nat) (hu : u < 60) (hv : v < 12) (hq5 : pRow q ≤ 60) (hq6 : pCol q ≤ 12) : Con l b0 yX3_covers cX3_covers 3 (some .boolean) 3 0 0 [aO 3 id, aI u, aI v] ad (cnt ns nt) M (fun r9 M' => M' = M ∧ r9 = some (aI (b2 (cv S q u v = true)))) noX := by
  obtain ⟨r1, r2, r3, r4, r5, r6, r7⟩ := hq
  obtain ⟨o1, o2, o3, o4, o5, o6⟩ := ou_at (nt := nt) hSh hq1 hns hq3 hq4 hq2
  refine Con.of hl pl_X3 (Nat.le_of_ble_eq_true rfl) ?_
  intro D cA p e s m args below meth c C hr
  refine w_aload_n C dX3_covers_0 rfl ?_
  refine g_X3_7 C dX3_covers_1 (by first | assumption | exact Nat.zero_lt_one | exact Nat.zero_lt_two | exact Nat.one_lt_two) ?_
  refine Wm.top (v' := aO 5 (8 * pShp q + (pTrn q + 4 * pMir q))) (congrArg aR (congrArg (Option.map _) r3)) ?_
  refine w_ifnull C dX3_covers_4 (fun h4 => ?_) (fun h4 => ?_)
  · cases h4
  · refine w_aload_n C dX3_covers_7 rfl ?_
    refine g_X3_7 C dX3_covers_8 (by first | assumption | exact Nat.zero_lt_one | exact Nat.zero_lt_two | exact Nat.one_lt_two) ?_
    refine Wm.top (v' := aO 5 (8 * pShp q + (pTrn q + 4 * pMir q))) (congrArg aR (congrArg (Option.map _) r3)) ?_
    refine w_iload_n C dX3_covers_11 rfl ?_
    refine w_aload_n C dX3_covers_12 rfl ?_
    refine g_X3_13 C dX3_covers_13 (by first | assumption | exact Nat.zero_lt_one | exact Nat.zero_lt_two | exact Nat.one_lt_two) ?_
    rw [r5]
    refine w_isub C dX3_covers_16 ?_
    refine w_iload_n C dX3_covers_17 rfl ?_
    refine w_aload_n C dX3_covers_18 rfl ?_
    refine g_X3_17 C dX3_covers_19 (by first | assumption | exact Nat.zero_lt_one | exact Nat.zero_lt_two | exact Nat.one_lt_two) ?_
    rw [r6]
    refine w_isub C dX3_covers_22 ?_
    refine w_callV C dX3_covers_23 (c_X2_hasCell hl o1 o2 o3 ((u : Int) - pRow q) ((v : Int) - pCol q) (by omega) (by omega)) mX2_hasCell vX2_hasCell lk_X3_20 (by first | assumption | exact Nat.zero_lt_one | exact Nat.zero_lt_two | exact Nat.one_lt_two) rfl rfl rfl rfl ⟨by decide, by decide, by decide, by decide⟩ (Nat.le_of_ble_eq_true rfl) (fun _ _ h => h.elim) ⟨by decide, by decide⟩ (fun r_ M_ q23 => ?_)
    obtain ⟨rfl, rfl⟩ := q23
    rw [cv_rc]
    have h01 := b2_01 (cv S q u v = true)
    refine w_if_eq C dX3_covers_26 (by omega) (fun h26 => ?_) (fun h26 => ?_)
    · refine w_iconst C dX3_covers_33 ?_
      refine w_iret C hr dX3_covers_34 (by first | exact narrow_z (b2_01 _) | exact narrow_z (by omega)) (⟨rfl, by rw [b2_f (fun h => by rw [b2_t h] at h26; omega)]⟩) (by decide) (by decide)
    · refine w_iconst C dX3_covers_29 ?_
      refine w_goto C dX3_covers_30 ?_
      refine w_iret C hr dX3_covers_34 (by first | exact narrow_z (b2_01 _) | exact narrow_z (by omega)) (⟨rfl, by rw [b2_t (Decidable.byContradiction fun h => by rw [b2_f h] at h26; omega)]⟩) (by decide) (by decide)
theorem c_X1_ownerByPieces (hl : l.stackTraces = false) {S : Sg} {P : List Pc} {nx mi : Nat} {f : Nat → Nat} (hG : GInv S) (hmi : inD (cnt ns nt) 2 mi) (hP : P.length ≤ 40) (hM : RepMF f mi S P nx M) (hI : PInv S P nx) (hSh : RepSh S M) (hns : nsS S ≤ ns) (u v : Nat) (hu : u < 60) (hv : v < 12) : Con l b0 yX1_ownerByPieces cX1_ownerByPieces 5 (some .int) 4 0 0 [aO 2 mi, aI u, aI v] ad (cnt ns nt) M (fun r9 M' => M' = M ∧ r9 = some (aI (clo S P (12 * u + v)))) noX := by
  have hM' := hM
  obtain ⟨a1, a2, ⟨b1, b2', b3⟩, a4⟩ := hM'
  have e12 : (12 * u + v) / 12 = u ∧ (12 * u + v) % 12 = v := by omega
  refine Con.of hl pl_X1 (Nat.le_of_ble_eq_true rfl) ?_
  intro D cA p e s m args below meth c C hr
  have loop : ∀ (b n : Nat) (A B : List Pc), P = A ++ B → A.length = n → B.length = b → (∀ p ∈ A, cv S p u v = false) → Wm p l e (rmd 4 0 0) s m args below meth c 5 D cA b0 0 0 (vx_MQ below (mQ D cA b0 ad (cnt ns nt) (fun r9 M' => M' = M ∧ r9 = some (aI (clo S P (12 * u + v))))) (mX D cA b0 ad (cnt ns nt) noX) args s 0 0 b0) 2 [(0, aO 2 mi), (1, aI u), (2, aI v), (3, aI n)] [] ad (cnt ns nt) M := by
    intro b
    induction b with
    | zero =>
      intro n A B hAB hA hB hno
      have hlen : P.length = n := by rw [hAB, List.length_append, hA, hB]; rfl
      refine w_iload_n C dX1_ownerByPieces_2 rfl ?_
      refine w_aload_n C dX1_ownerByPieces_3 rfl ?_
      refine g_X1_40 C dX1_ownerByPieces_4 (by first | assumption | exact Nat.zero_lt_one | exact Nat.zero_lt_two | exact Nat.one_lt_two) ?_
      refine w_icmp_ge C dX1_ownerByPieces_7 (by omega) (by omega) (fun h7 => ?_) (fun h7 => ?_)
      · refine w_iconst C dX1_ownerByPieces_44 ?_
        refine w_iret C hr dX1_ownerByPieces_45 rfl (⟨rfl, ?_⟩) (by decide) (by decide)
        have e9 : P.find? (fun p => cv S p ((12 * u + v) / 12) ((12 * u + v) % 12)) = none := by
          rw [List.find?_eq_none, hAB, List.length_eq_zero_iff.mp hB, List.append_nil, e12.1, e12.2]
          intro p hp
          rw [hno p hp]
          decide
        unfold clo
        rw [e9]
      · omega
    | succ b ih =>
      intro n A B hAB hA hB hno
      obtain ⟨q, B', rfl⟩ := lst_cons hB
      have hlen : P.length = n + (b + 1) := by rw [hAB, List.length_append, hA, hB]
      have hq : P[n]? = some q := by rw [hAB, ← hA]; simp
      obtain ⟨-, hqm, hqr, hi3⟩ := pc_at hM hmi hP hq
      obtain ⟨i1, i2, i3, i4, i5, i6, i7, i8⟩ := hI.1 q hqm
      have hqr' := hqr
      obtain ⟨r1, r2, r3, r4, r5, r6, r7⟩ := hqr'
      have hzz := hSh (pShp q) i1
      obtain ⟨k0, hk0, hd0⟩ := hzz.1.2.2.2.2.2.2.2.mp i2
      have hd := d_any (t := pTrn q) (mi := pMir q) hk0 hd0
      have hc := hgt_cell (d := dB S (pShp q)) (t := pTrn q) (mi := pMir q) ⟨k0, hk0, hd0⟩
      have hw := wid_cell (d := dB S (pShp q)) (t := pTrn q) (mi := pMir q) ⟨k0, hk0, hd0⟩
      obtain ⟨x1, x2, x3, x4⟩ := hc
      obtain ⟨y1, y2, y3, y4⟩ := hw
      have hcs : colsS S ≤ 12 := by
        have := hG.1
        unfold colsS
        split <;> omega
      refine w_iload_n C dX1_ownerByPieces_2 rfl ?_
      refine w_aload_n C dX1_ownerByPieces_3 rfl ?_
      refine g_X1_40 C dX1_ownerByPieces_4 (by first | assumption | exact Nat.zero_lt_one | exact Nat.zero_lt_two | exact Nat.one_lt_two) ?_
      refine w_icmp_ge C dX1_ownerByPieces_7 (by omega) (by omega) (fun h7 => ?_) (fun h7 => ?_)
      · omega
      · refine w_aload_n C dX1_ownerByPieces_10 rfl ?_
        refine w_iload_n C dX1_ownerByPieces_11 rfl ?_
        refine w_callV C dX1_ownerByPieces_12 (c_X1_pieceIn hl hmi a1 hP b1 n (by omega)) mX1_pieceIn vX1_pieceIn lk_X1_44 (by first | assumption | exact Nat.zero_lt_one | exact Nat.zero_lt_two | exact Nat.one_lt_two) rfl rfl rfl rfl ⟨by decide, by decide, by decide, by decide⟩ (Nat.le_of_ble_eq_true rfl) (fun _ _ h => h.elim) ⟨by decide, by decide⟩ (fun r_ M_ q12 => ?_)
        obtain ⟨rfl, rfl⟩ := q12
        rw [if_pos (by omega), Int.toNat_natCast]
        refine Wm.top (v' := aO 3 (40 * mi + f n)) rfl ?_
        refine w_astore C dX1_ownerByPieces_15 (by decide) ?_
        refine w_aload C dX1_ownerByPieces_17 rfl ?_
        refine w_ifnull C dX1_ownerByPieces_19 (fun h19 => ?_) (fun h19 => ?_)
        · cases h19
        · refine w_aload C dX1_ownerByPieces_22 rfl ?_
          refine w_iload_n C dX1_ownerByPieces_24 rfl ?_
          refine w_iload_n C dX1_ownerByPieces_25 rfl ?_
          refine w_callV C dX1_ownerByPieces_26 (c_X3_covers hl hi3 hqr hSh hns i1 i2 i3 i4 u v hu hv (by omega) (by omega)) mX3_covers vX3_covers lk_X1_180 (by first | assumption | exact Nat.zero_lt_one | exact Nat.zero_lt_two | exact Nat.one_lt_two) rfl rfl rfl rfl ⟨by decide, by decide, by decide, by decide⟩ (Nat.le_of_ble_eq_true rfl) (fun _ _ h => h.elim) ⟨by decide, by decide⟩ (fun r_ M_ q26 => ?_)
          obtain ⟨rfl, rfl⟩ := q26
          have h01 := b2_01 (cv S q u v = true)
          refine w_if_eq C dX1_ownerByPieces_29 (by omega) (fun h29 => ?_) (fun h29 => ?_)
          · have h9 : cv S q u v = false := by
              cases hx : cv S q u v with
              | false => rfl
              | true => rw [b2_t hx] at h29; omega
            refine w_iinc C dX1_ownerByPieces_38 rfl (by decide) ?_
            refine w_goto C dX1_ownerByPieces_41 ?_
            refine Wm.lsub (lv' := [(0, aO 2 mi), (1, aI u), (2, aI v), (3, aI ((n + 1 : Nat) : Int))]) ⟨rfl, rfl, rfl, rfl, trivial⟩ (ih (n + 1) (A ++ [q]) B' (by rw [hAB]; simp) (by simp [hA]) (by simpa using hB) (fun p hp => ?_))
            rcases List.mem_append.mp hp with h | h
            · exact hno p h
            · rw [List.mem_singleton.mp h]
              exact h9
          · have h9 : cv S q u v = true := by
              cases hx : cv S q u v with
              | true => rfl
              | false => rw [b2_f (by rw [hx]; decide)] at h29; omega
            refine w_aload C dX1_ownerByPieces_32 rfl ?_
            refine g_X1_48 C dX1_ownerByPieces_34 (by first | assumption | exact Nat.zero_lt_one | exact Nat.zero_lt_two | exact Nat.one_lt_two) ?_
            refine w_iret C hr dX1_ownerByPieces_37 rfl (⟨rfl, ?_⟩) (by decide) (by decide)
            have e9 : P.find? (fun p => cv S p ((12 * u + v) / 12) ((12 * u + v) % 12)) = some q := by
              rw [e12.1, e12.2, hAB, List.find?_append]
              have : A.find? (fun p => cv S p u v) = none := by
                rw [List.find?_eq_none]
                intro p hp
                rw [hno p hp]
                decide
              rw [this, List.find?_cons, h9]
              rfl
            unfold clo
            rw [e9, r1]
  refine w_iconst C dX1_ownerByPieces_0 ?_
  refine w_istore_n C dX1_ownerByPieces_1 (by decide) ?_
  exact Wm.lsub (lv' := [(0, aO 2 mi), (1, aI u), (2, aI v), (3, aI ((0 : Nat) : Int))]) ⟨rfl, rfl, rfl, rfl, trivial⟩ (loop P.length 0 [] P rfl rfl rfl (fun p h => by cases h))
theorem c_X1_countOf (hl : l.stackTraces = false) {S : Sg} {P : List Pc} {nx mi j : Nat} {f : Nat → Nat} (hmi : inD (cnt ns nt) 2 mi) (hP : P.length ≤ 40) (hM : RepMF f mi S P nx M) (hI : PInv S P nx) (hns : nsS S ≤ ns) (hj : inD (cnt ns nt) 4 j) (z : Nat) (hz : z ≤ 1) : Con l b0 yX1_countOf cX1_countOf 6 (some .int) 2 0 0 [aO 2 mi, aO 4 j, aI z] ad (cnt ns nt) M (fun r9 M' => M' = M ∧ r9 = some (aI (P.countP fun p => pShp p == j && pMir p == z : Nat))) noX := by
  have hM' := hM
  obtain ⟨a1, a2, ⟨b1, b2', b3⟩, a4⟩ := hM'
  refine Con.of hl pl_X1 (Nat.le_of_ble_eq_true rfl) ?_
  intro D cA p e s m args below meth c C hr
  have loop : ∀ (b n : Nat) (A B : List Pc), P = A ++ B → A.length = n → B.length = b → Wm p l e (rmd 2 0 0) s m args below meth c 6 D cA b0 0 0 (vx_MQ below (mQ D cA b0 ad (cnt ns nt) (fun r9 M' => M' = M ∧ r9 = some (aI (P.countP fun p => pShp p == j && pMir p == z : Nat)))) (mX D cA b0 ad (cnt ns nt) noX) args s 0 0 b0) 5 [(0, aO 2 mi), (1, aO 4 j), (2, aI z), (3, aI (A.countP fun p => pShp p == j && pMir p == z : Nat)), (4, aI n)] [] ad (cnt ns nt) M := by
    intro b
    induction b with
    | zero =>
      intro n A B hAB hA hB
      have hlen : P.length = n := by rw [hAB, List.length_append, hA, hB]; rfl
      refine w_iload C dX1_countOf_5 rfl ?_
      refine w_aload_n C dX1_countOf_7 rfl ?_
      refine g_X1_40 C dX1_countOf_8 (by first | assumption | exact Nat.zero_lt_one | exact Nat.zero_lt_two | exact Nat.one_lt_two) ?_
      refine w_icmp_ge C dX1_countOf_11 (by omega) (by omega) (fun h11 => ?_) (fun h11 => ?_)
      · refine w_iload_n C dX1_countOf_54 rfl ?_
        refine w_iret C hr dX1_countOf_55 rfl (⟨rfl, ?_⟩) (by decide) (by decide)
        rw [hAB, List.length_eq_zero_iff.mp hB, List.append_nil]
      · omega
    | succ b ih =>
      intro n A B hAB hA hB
      obtain ⟨q, B', rfl⟩ := lst_cons hB
      have hlen : P.length = n + (b + 1) := by rw [hAB, List.length_append, hA, hB]
      have hq : P[n]? = some q := by rw [hAB, ← hA]; simp
      obtain ⟨-, hqm, hqr, hi3⟩ := pc_at hM hmi hP hq
      obtain ⟨i1, i2, i3, i4, i5, i6, i7, i8⟩ := hI.1 q hqm
      obtain ⟨r1, r2, r3, r4, r5, r6, r7⟩ := hqr
      have hj4 : inD (cnt ns nt) 4 (pShp q) := by
        show pShp q < ns
        omega
      refine w_iload C dX1_countOf_5 rfl ?_
      refine w_aload_n C dX1_countOf_7 rfl ?_
      refine g_X1_40 C dX1_countOf_8 (by first | assumption | exact Nat.zero_lt_one | exact Nat.zero_lt_two | exact Nat.one_lt_two) ?_
      refine w_icmp_ge C dX1_countOf_11 (by omega) (by omega) (fun h11 => ?_) (fun h11 => ?_)
      · omega
      · refine w_aload_n C dX1_countOf_14 rfl ?_
        refine w_iload C dX1_countOf_15 rfl ?_
        refine w_callV C dX1_countOf_17 (c_X1_pieceIn hl hmi a1 hP b1 n (by omega)) mX1_pieceIn vX1_pieceIn lk_X1_44 (by first | assumption | exact Nat.zero_lt_one | exact Nat.zero_lt_two | exact Nat.one_lt_two) rfl rfl rfl rfl ⟨by decide, by decide, by decide, by decide⟩ (Nat.le_of_ble_eq_true rfl) (fun _ _ h => h.elim) ⟨by decide, by decide⟩ (fun r_ M_ q17 => ?_)
        obtain ⟨rfl, rfl⟩ := q17
        rw [if_pos (by omega), Int.toNat_natCast]
        refine Wm.top (v' := aO 3 (40 * mi + f n)) rfl ?_
        refine w_astore C dX1_countOf_20 (by decide) ?_
        refine w_aload C dX1_countOf_22 rfl ?_
        refine w_ifnull C dX1_countOf_24 (fun h24 => ?_) (fun h24 => ?_)
        · cases h24
        · refine w_aload C dX1_countOf_27 rfl ?_
          refine g_X1_132 C dX1_countOf_29 (by first | assumption | exact Nat.zero_lt_one | exact Nat.zero_lt_two | exact Nat.one_lt_two) ?_
          refine Wm.top (v' := aO 4 (pShp q)) (congrArg aR (congrArg (Option.map _) r2)) ?_
          refine w_aload_n C dX1_countOf_32 rfl ?_
          refine w_acmp_ne C dX1_countOf_33 (fun _ h => by cases h; exact hj4) (fun _ h => by cases h; exact hj) (fun h33 => ?_) (fun h33 => ?_)
          · have e9 : (A ++ [q]).countP (fun p => pShp p == j && pMir p == z) = A.countP fun p => pShp p == j && pMir p == z := by
              rw [List.countP_append, List.countP_singleton]
              have : (pShp q == j) = false := by
                rw [beq_eq_false_iff_ne]
                rintro rfl
                exact h33 rfl
              rw [this]
              rfl
            refine w_iinc C dX1_countOf_48 rfl (by decide) ?_
            refine w_goto C dX1_countOf_51 ?_
            exact Wm.lsub (lv' := [(0, aO 2 mi), (1, aO 4 j), (2, aI z), (3, aI ((A ++ [q]).countP fun p => pShp p == j && pMir p == z : Nat)), (4, aI ((n + 1 : Nat) : Int))]) ⟨rfl, rfl, rfl, by rw [e9]; rfl, rfl, trivial⟩ (ih (n + 1) (A ++ [q]) B' (by rw [hAB]; simp) (by simp [hA]) (by simpa using hB))
          · have h34 : pShp q = j := by
              have := Option.some.inj h33
              exact (Prod.mk.inj this).2
            refine w_aload C dX1_countOf_36 rfl ?_
            refine g_X1_149 C dX1_countOf_38 (by first | assumption | exact Nat.zero_lt_one | exact Nat.zero_lt_two | exact Nat.one_lt_two) ?_
            refine w_iload_n C dX1_countOf_41 rfl ?_
            refine w_icmp_ne C dX1_countOf_42 (by omega) (by omega) (fun h42 => ?_) (fun h42 => ?_)
            · have e9 : (A ++ [q]).countP (fun p => pShp p == j && pMir p == z) = A.countP fun p => pShp p == j && pMir p == z := by
                rw [List.countP_append, List.countP_singleton]
                have : (pMir q == z) = false := by
                  rw [beq_eq_false_iff_ne]
                  omega
                rw [this, Bool.and_false]
                rfl
              refine w_iinc C dX1_countOf_48 rfl (by decide) ?_
              refine w_goto C dX1_countOf_51 ?_
              exact Wm.lsub (lv' := [(0, aO 2 mi), (1, aO 4 j), (2, aI z), (3, aI ((A ++ [q]).countP fun p => pShp p == j && pMir p == z : Nat)), (4, aI ((n + 1 : Nat) : Int))]) ⟨rfl, rfl, rfl, by rw [e9]; rfl, rfl, trivial⟩ (ih (n + 1) (A ++ [q]) B' (by rw [hAB]; simp) (by simp [hA]) (by simpa using hB))
            · have e9 : (A ++ [q]).countP (fun p => pShp p == j && pMir p == z) = (A.countP fun p => pShp p == j && pMir p == z) + 1 := by
                rw [List.countP_append, List.countP_singleton]
                have : (pMir q == z) = true := by
                  rw [beq_iff_eq]
                  omega
                rw [this, beq_iff_eq.mpr h34]
                rfl
              refine w_iinc C dX1_countOf_45 rfl (by decide) ?_
              refine w_iinc C dX1_countOf_48 rfl (by decide) ?_
              refine w_goto C dX1_countOf_51 ?_
              exact Wm.lsub (lv' := [(0, aO 2 mi), (1, aO 4 j), (2, aI z), (3, aI ((A ++ [q]).countP fun p => pShp p == j && pMir p == z : Nat)), (4, aI ((n + 1 : Nat) : Int))]) ⟨rfl, rfl, rfl, by rw [e9]; rfl, rfl, trivial⟩ (ih (n + 1) (A ++ [q]) B' (by rw [hAB]; simp) (by simp [hA]) (by simpa using hB))
  refine w_iconst C dX1_countOf_0 ?_
  refine w_istore_n C dX1_countOf_1 (by decide) ?_
  refine w_iconst C dX1_countOf_2 ?_
  refine w_istore C dX1_countOf_3 (by decide) ?_
  exact Wm.lsub (lv' := [(0, aO 2 mi), (1, aO 4 j), (2, aI z), (3, aI (([] : List Pc).countP fun p => pShp p == j && pMir p == z : Nat)), (4, aI ((0 : Nat) : Int))]) ⟨rfl, rfl, rfl, rfl, rfl, trivial⟩ (loop P.length 0 [] P rfl rfl rfl)
theorem cnt_mir {P : List Pc} {j : Nat} (h : ∀ p ∈ P, pMir p ≤ 1) : (0 < (P.countP fun p => pShp p == j && pMir p == 0) + (P.countP fun p => pShp p == j && pMir p == 1)) ↔ ∃ p ∈ P, pShp p = j := by
  constructor
  · intro h9
    by_cases h1 : 0 < P.countP fun p => pShp p == j && pMir p == 0
    · obtain ⟨p, hp, e⟩ := List.countP_pos_iff.mp h1
      rw [Bool.and_eq_true, beq_iff_eq] at e
      exact ⟨p, hp, e.1⟩
    · obtain ⟨p, hp, e⟩ := List.countP_pos_iff.mp (show 0 < P.countP fun p => pShp p == j && pMir p == 1 by omega)
      rw [Bool.and_eq_true, beq_iff_eq] at e
      exact ⟨p, hp, e.1⟩
  · rintro ⟨p, hp, e⟩
    have h1 := h p hp
    by_cases h2 : pMir p = 0
    · have : 0 < P.countP fun p => pShp p == j && pMir p == 0 := List.countP_pos_iff.mpr ⟨p, hp, by rw [Bool.and_eq_true, beq_iff_eq, beq_iff_eq]; exact ⟨e, h2⟩⟩
      omega
    · have : 0 < P.countP fun p => pShp p == j && pMir p == 1 := List.countP_pos_iff.mpr ⟨p, hp, by rw [Bool.and_eq_true, beq_iff_eq, beq_iff_eq]; exact ⟨e, by omega⟩⟩
      omega
theorem c_X1_holds (hl : l.stackTraces = false) {S : Sg} {P : List Pc} {nx mi j : Nat} {f : Nat → Nat} (hmi : inD (cnt ns nt) 2 mi) (hP : P.length ≤ 40) (hM : RepMF f mi S P nx M) (hI : PInv S P nx) (hns : nsS S ≤ ns) (hj : inD (cnt ns nt) 4 j) : Con l b0 yX1_holds cX1_holds 2 (some .boolean) 3 0 0 [aO 2 mi, aO 4 j] ad (cnt ns nt) M (fun r9 M' => M' = M ∧ ∃ z : Int, r9 = some (aI z) ∧ (z = 0 ∨ z = 1) ∧ (z = 1 ↔ ∃ p ∈ P, pShp p = j)) noX := by
  have hc := cnt_mir (P := P) (j := j) (fun p hp => (hI.1 p hp).2.2.2.1)
  have hc0 : (P.countP fun p => pShp p == j && pMir p == 0) ≤ P.length := List.countP_le_length
  have hc1 : (P.countP fun p => pShp p == j && pMir p == 1) ≤ P.length := List.countP_le_length
  refine Con.of hl pl_X1 (Nat.le_of_ble_eq_true rfl) ?_
  intro D cA p e s m args below meth c C hr
  refine w_aload_n C dX1_holds_0 rfl ?_
  refine w_aload_n C dX1_holds_1 rfl ?_
  refine w_iconst C dX1_holds_2 ?_
  refine w_callV C dX1_holds_3 (c_X1_countOf hl hmi hP hM hI hns hj 0 (by omega)) mX1_countOf vX1_countOf lk_X1_183 (by first | assumption | exact Nat.zero_lt_one | exact Nat.zero_lt_two | exact Nat.one_lt_two) rfl rfl rfl rfl ⟨by decide, by decide, by decide, by decide⟩ (Nat.le_of_ble_eq_true rfl) (fun _ _ h => h.elim) ⟨by decide, by decide⟩ (fun r_ M_ q3 => ?_)
  obtain ⟨rfl, rfl⟩ := q3
  refine w_aload_n C dX1_holds_6 rfl ?_
  refine w_aload_n C dX1_holds_7 rfl ?_
  refine w_iconst C dX1_holds_8 ?_
  refine w_callV C dX1_holds_9 (c_X1_countOf hl hmi hP hM hI hns hj 1 (by omega)) mX1_countOf vX1_countOf lk_X1_183 (by first | assumption | exact Nat.zero_lt_one | exact Nat.zero_lt_two | exact Nat.one_lt_two) rfl rfl rfl rfl ⟨by decide, by decide, by decide, by decide⟩ (Nat.le_of_ble_eq_true rfl) (fun _ _ h => h.elim) ⟨by decide, by decide⟩ (fun r_ M_ q9 => ?_)
  obtain ⟨rfl, rfl⟩ := q9
  refine w_iadd C dX1_holds_12 ?_
  refine w_if_le C dX1_holds_13 (by omega) (fun h13 => ?_) (fun h13 => ?_)
  · refine w_iconst C dX1_holds_20 ?_
    refine w_iret C hr dX1_holds_21 (by first | exact narrow_z (b2_01 _) | exact narrow_z (by omega)) (⟨rfl, 0, rfl, Or.inl rfl, ⟨fun h => by omega, fun h => absurd (hc.mpr h) (by omega)⟩⟩) (by decide) (by decide)
  · refine w_iconst C dX1_holds_16 ?_
    refine w_goto C dX1_holds_17 ?_
    refine w_iret C hr dX1_holds_21 (by first | exact narrow_z (b2_01 _) | exact narrow_z (by omega)) (⟨rfl, 1, rfl, Or.inr rfl, ⟨fun _ => hc.mp (by omega), fun _ => rfl⟩⟩) (by decide) (by decide)
theorem c_X1_cellsUsed (hl : l.stackTraces = false) {S : Sg} {P : List Pc} {nx mi : Nat} {f : Nat → Nat} (hG : GInv S) (hmi : inD (cnt ns nt) 2 mi) (hP : P.length ≤ 40) (hM : RepMF f mi S P nx M) (hI : PInv S P nx) (hSh : RepSh S M) (hns : nsS S ≤ ns) : Con l b0 yX1_cellsUsed cX1_cellsUsed 4 (some .int) 2 0 0 [aO 2 mi] ad (cnt ns nt) M (fun r9 M' => M' = M ∧ r9 = some (aI (usedS S P : Nat))) noX := by
  have hM' := hM
  obtain ⟨a1, a2, ⟨b1, b2', b3⟩, a4⟩ := hM'
  refine Con.of hl pl_X1 (Nat.le_of_ble_eq_true rfl) ?_
  intro D cA p e s m args below meth c C hr
  have loop : ∀ (b n : Nat) (A B : List Pc), P = A ++ B → A.length = n → B.length = b → Wm p l e (rmd 2 0 0) s m args below meth c 4 D cA b0 0 0 (vx_MQ below (mQ D cA b0 ad (cnt ns nt) (fun r9 M' => M' = M ∧ r9 = some (aI (usedS S P : Nat)))) (mX D cA b0 ad (cnt ns nt) noX) args s 0 0 b0) 4 [(0, aO 2 mi), (1, aI (usedS S A : Nat)), (2, aI n)] [] ad (cnt ns nt) M := by
    intro b
    induction b with
    | zero =>
      intro n A B hAB hA hB
      have hlen : P.length = n := by rw [hAB, List.length_append, hA, hB]; rfl
      refine w_iload_n C dX1_cellsUsed_4 rfl ?_
      refine w_aload_n C dX1_cellsUsed_5 rfl ?_
      refine g_X1_40 C dX1_cellsUsed_6 (by first | assumption | exact Nat.zero_lt_one | exact Nat.zero_lt_two | exact Nat.one_lt_two) ?_
      refine w_icmp_ge C dX1_cellsUsed_9 (by omega) (by omega) (fun h9 => ?_) (fun h9 => ?_)
      · refine w_iload_n C dX1_cellsUsed_45 rfl ?_
        refine w_iret C hr dX1_cellsUsed_46 rfl (⟨rfl, ?_⟩) (by decide) (by decide)
        rw [hAB, List.length_eq_zero_iff.mp hB, List.append_nil]
      · omega
    | succ b ih =>
      intro n A B hAB hA hB
      obtain ⟨q, B', rfl⟩ := lst_cons hB
      have hlen : P.length = n + (b + 1) := by rw [hAB, List.length_append, hA, hB]
      have hq : P[n]? = some q := by rw [hAB, ← hA]; simp
      obtain ⟨-, hqm, hqr, hi3⟩ := pc_at hM hmi hP hq
      obtain ⟨i1, i2, i3, i4, i5, i6, i7, i8⟩ := hI.1 q hqm
      obtain ⟨r1, r2, r3, r4, r5, r6, r7⟩ := hqr
      have hj4 : inD (cnt ns nt) 4 (pShp q) := by
        show pShp q < ns
        omega
      have hsz := (hSh _ i1).1.2.2.1
      have e9 : usedS S (A ++ [q]) = usedS S A + szS S (pShp q) := by
        unfold usedS
        rw [List.map_append, List.sum_append]
        simp
      refine w_iload_n C dX1_cellsUsed_4 rfl ?_
      refine w_aload_n C dX1_cellsUsed_5 rfl ?_
      refine g_X1_40 C dX1_cellsUsed_6 (by first | assumption | exact Nat.zero_lt_one | exact Nat.zero_lt_two | exact Nat.one_lt_two) ?_
      refine w_icmp_ge C dX1_cellsUsed_9 (by omega) (by omega) (fun h9 => ?_) (fun h9 => ?_)
      · omega
      · refine w_aload_n C dX1_cellsUsed_12 rfl ?_
        refine w_iload_n C dX1_cellsUsed_13 rfl ?_
        refine w_callV C dX1_cellsUsed_14 (c_X1_pieceIn hl hmi a1 hP b1 n (by omega)) mX1_pieceIn vX1_pieceIn lk_X1_44 (by first | assumption | exact Nat.zero_lt_one | exact Nat.zero_lt_two | exact Nat.one_lt_two) rfl rfl rfl rfl ⟨by decide, by decide, by decide, by decide⟩ (Nat.le_of_ble_eq_true rfl) (fun _ _ h => h.elim) ⟨by decide, by decide⟩ (fun r_ M_ q14 => ?_)
        obtain ⟨rfl, rfl⟩ := q14
        rw [if_pos (by omega), Int.toNat_natCast]
        refine Wm.top (v' := aO 3 (40 * mi + f n)) rfl ?_
        refine w_astore_n C dX1_cellsUsed_17 (by decide) ?_
        refine w_aload_n C dX1_cellsUsed_18 rfl ?_
        refine w_ifnull C dX1_cellsUsed_19 (fun h19 => ?_) (fun h19 => ?_)
        · cases h19
        · refine w_aload_n C dX1_cellsUsed_22 rfl ?_
          refine g_X1_132 C dX1_cellsUsed_23 (by first | assumption | exact Nat.zero_lt_one | exact Nat.zero_lt_two | exact Nat.one_lt_two) ?_
          refine Wm.top (v' := aO 4 (pShp q)) (congrArg aR (congrArg (Option.map _) r2)) ?_
          refine w_ifnull C dX1_cellsUsed_26 (fun h26 => ?_) (fun h26 => ?_)
          · cases h26
          · refine w_iload_n C dX1_cellsUsed_29 rfl ?_
            refine w_aload_n C dX1_cellsUsed_30 rfl ?_
            refine g_X1_132 C dX1_cellsUsed_31 (by first | assumption | exact Nat.zero_lt_one | exact Nat.zero_lt_two | exact Nat.one_lt_two) ?_
            refine Wm.top (v' := aO 4 (pShp q)) (congrArg aR (congrArg (Option.map _) r2)) ?_
            refine g_X1_61 C dX1_cellsUsed_34 (by first | assumption | exact Nat.zero_lt_one | exact Nat.zero_lt_two | exact Nat.one_lt_two) ?_
            rw [hsz]
            refine w_iadd C dX1_cellsUsed_37 ?_
            refine w_istore_n C dX1_cellsUsed_38 (by decide) ?_
            refine w_iinc C dX1_cellsUsed_39 rfl (by decide) ?_
            refine w_goto C dX1_cellsUsed_42 ?_
            exact Wm.lsub (lv' := [(0, aO 2 mi), (1, aI (usedS S (A ++ [q]) : Nat)), (2, aI ((n + 1 : Nat) : Int))]) ⟨rfl, by rw [e9]; rfl, rfl, trivial⟩ (ih (n + 1) (A ++ [q]) B' (by rw [hAB]; simp) (by simp [hA]) (by simpa using hB))
  refine w_iconst C dX1_cellsUsed_0 ?_
  refine w_istore_n C dX1_cellsUsed_1 (by decide) ?_
  refine w_iconst C dX1_cellsUsed_2 ?_
  refine w_istore_n C dX1_cellsUsed_3 (by decide) ?_
  exact Wm.lsub (lv' := [(0, aO 2 mi), (1, aI (usedS S [] : Nat)), (2, aI ((0 : Nat) : Int))]) ⟨rfl, rfl, rfl, trivial⟩ (loop P.length 0 [] P rfl rfl rfl)
end Mk
