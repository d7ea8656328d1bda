/-! the room: shapes -/
def oCellsOf (a : Int) (S : Sg) (P : List Pc) (nx : Nat) : Res := if ¬ (0 ≤ a ∧ a < nsS S) then (1, 0, S, P, nx) else (0, (szS S a.toNat : Int), S, P, nx)
abbrev heldS (P : List Pc) (j : Nat) : Bool := P.any fun p => pShp p == j
theorem heldS_iff {P : List Pc} {j : Nat} : heldS P j = true ↔ ∃ p ∈ P, pShp p = j := by
  simp [heldS, List.any_eq_true]
def oAddCell (a b c : Int) (S : Sg) (P : List Pc) (nx : Nat) : Res := if ¬ (0 ≤ a ∧ a < nsS S) then (1, 0, S, P, nx) else if ¬ ((0 ≤ b ∧ b ≤ 4) ∧ 0 ≤ c ∧ c ≤ 4) then (2, 0, S, P, nx) else if drS S a.toNat (5 * b.toNat + c.toNat) ≠ 0 then (3, 0, S, P, nx) else if heldS P a.toNat = true ∨ 0 < eS S a.toNat then (4, 0, S, P, nx) else (0, (szS S a.toNat : Int) + 1, up3 (up3 S 9 a.toNat (5 * b.toNat + c.toNat) 1) 10 a.toNat 0 (szS S a.toNat + 1), P, nx)
def oSetMark (a g b c : Int) (S : Sg) (P : List Pc) (nx : Nat) : Res := if ¬ (0 ≤ a ∧ a < nsS S) then (1, 0, S, P, nx) else if ¬ ((-1 ≤ g ∧ g ≤ 3) ∧ (0 ≤ b ∧ b ≤ 4) ∧ 0 ≤ c ∧ c ≤ 4) then (2, 0, S, P, nx) else if heldS P a.toNat = true then (3, 0, S, P, nx) else (0, (gpS S a.toNat : Int) - 1, up3 (up3 (up3 S 11 a.toNat 0 (g + 1).toNat) 12 a.toNat 0 b.toNat) 13 a.toNat 0 c.toNat, P, nx)
theorem dB_cgj {S S' : Sg} {j : Nat} (h : ∀ f k, S' f j k = S f j k) : dB S' j = dB S j := by
  funext k
  unfold dB
  rw [show drS S' j k = drS S j k from h 9 k]
theorem RepS1.cgj {S S' : Sg} {j : Nat} {M : Mem} (h : ∀ f k, S' f j k = S f j k) (h1 : RepS1 S j M) : RepS1 S' j M := by
  unfold RepS1 at h1 ⊢
  rw [dB_cgj h]
  simp only [ruS, paS, szS, gpS, mrS, mcS, h] at h1 ⊢
  exact h1
theorem RepOu.cgj {S S' : Sg} {j o : Nat} {M : Mem} (h : ∀ f k, S' f j k = S f j k) (h1 : RepOu S j o M) : RepOu S' j o M := by
  unfold RepOu mkR at h1 ⊢
  rw [dB_cgj h]
  simp only [szS, mrS, mcS, h] at h1 ⊢
  exact h1
/-- the marks and cells of one shape, which no piece of the marker has, have changed -/
theorem RepRoom.sh {S S' : Sg} {P : List Pc} {nx j : Nat} {M M' : Mem} (hP : P.length ≤ 40) (hF : Fr (shK j) M M') (hag : ∀ f i k, ¬ ((9 ≤ f ∧ f ≤ 13) ∧ i = j) → S' f i k = S f i k) (hno : ∀ p ∈ P, pShp p ≠ j) (h1 : RepS1 S' j M') (h2 : RepS2 S' j M') (h3 : ∀ o, o < 8 → M'.2.1 13 j o = some (8 * j + o) ∧ RepOu S' j o M') (hR : RepRoom S P nx M) : RepRoom S' P nx M' := by
  obtain ⟨hC, hSh, hM, hSt, hRm, hTr⟩ := hR
  have nk : ∀ {k i : Nat}, k ≠ 4 → k ≠ 30 → k ≠ 5 → k ≠ 31 → ¬ shK j k i := fun z1 z2 z3 z4 q => by
    rcases q with ⟨q | q, -⟩ | ⟨q | q, -⟩
    · exact z1 q
    · exact z2 q
    · exact z3 q
    · exact z4 q
  have ni : ∀ {k i : Nat}, (k = 4 ∨ k = 30) → i ≠ j → ¬ shK j k i := fun z1 z2 q => by
    rcases q with ⟨-, q⟩ | ⟨q, -⟩
    · exact z2 q
    · omega
  have no : ∀ {k i o : Nat}, (k = 5 ∨ k = 31) → o < 8 → i ≠ j → ¬ shK j k (8 * i + o) := fun z1 z2 z3 q => by
    rcases q with ⟨q, -⟩ | ⟨-, q⟩
    · omega
    · omega
  have c6 : ∀ f, f < 9 ∨ 13 < f → ∀ i k, S' f i k = S f i k := fun f hf i k => hag f i k (by omega)
  refine ⟨?_, fun i hi => ?_, ?_, ?_, ?_, ?_⟩
  · have e : S' = fun f i k => if 9 ≤ f ∧ f ≤ 13 then S' f i k else S f i k := by
      funext f i k
      split
      · rfl
      · exact c6 f (by omega) i k
    have := RepCl.fr hF (nk (by decide) (by decide) (by decide) (by decide)) (nk (by decide) (by decide) (by decide) (by decide)) (nk (by decide) (by decide) (by decide) (by decide)) hC
    rw [e]
    exact this
  · by_cases hij : i = j
    · subst hij
      exact ⟨h1, h2, h3⟩
    · have hcg : ∀ f k, S' f i k = S f i k := fun f k => hag f i k (fun q => hij q.2)
      have hi' : i < nsS S := by
        have := c6 6 (Or.inl (by decide)) 0 0
        simp only [nsS] at hi ⊢
        omega
      obtain ⟨b1, b2', b3⟩ := hSh i hi'
      refine ⟨RepS1.cgj hcg (b1.fr hF (ni (Or.inl rfl) hij) (ni (Or.inr rfl) hij)), ?_, fun o ho => ?_⟩
      · have hs2 := b2'.fr hF (ni (Or.inl rfl) hij)
        unfold RepS2 at hs2 ⊢
        have e : eS S' i = eS S i := by
          unfold eS garS
          have e1 : (fun y => mdS S' y * (ctS S' y i * pppS S' i)) = fun y => mdS S y * (ctS S y i * pppS S i) := by
            funext y
            simp only [mdS, ctS, pppS, paS, c6 17 (Or.inr (by decide)), c6 16 (Or.inr (by decide)), hcg]
          rw [e1]
          simp only [stS, hcg]
        rw [e]
        simp only [stS, hcg] at hs2 ⊢
        exact hs2
      · exact ⟨by rw [(hF 13 i (nk (by decide) (by decide) (by decide) (by decide))).2.1]; exact (b3 o ho).1, RepOu.cgj hcg ((b3 o ho).2.fr hF (no (Or.inl rfl) ho hij) (no (Or.inr rfl) ho hij))⟩
  · refine RepMk.cg (S := S) (fun p hp => ?_) (fun _ => c6 3 (Or.inl (by decide)) 0 0) (RepMk.fr hP hF ⟨nk (by decide) (by decide) (by decide) (by decide), nk (by decide) (by decide) (by decide) (by decide), nk (by decide) (by decide) (by decide) (by decide), nk (by decide) (by decide) (by decide) (by decide), nk (by decide) (by decide) (by decide) (by decide), nk (by decide) (by decide) (by decide) (by decide)⟩ (fun _ _ => nk (by decide) (by decide) (by decide) (by decide)) hM)
    have hcg : ∀ f k, S' f (pShp p) k = S f (pShp p) k := fun f k => hag f _ k (fun q => hno p hp q.2)
    exact ⟨dB_cgj hcg, hcg 11 0, hcg 12 0, hcg 13 0⟩
  · have e : S' = fun f i k => if 9 ≤ f ∧ f ≤ 13 then S' f i k else S f i k := by
      funext f i k
      split
      · rfl
      · exact c6 f (by omega) i k
    have := RepSt.fr hF (fun i => ⟨nk (by decide) (by decide) (by decide) (by decide), nk (by decide) (by decide) (by decide) (by decide)⟩) hSt
    rw [e]
    exact this
  · have e : S' = fun f i k => if 9 ≤ f ∧ f ≤ 13 then S' f i k else S f i k := by
      funext f i k
      split
      · rfl
      · exact c6 f (by omega) i k
    have := RepRm.fr hF (nk (by decide) (by decide) (by decide) (by decide)) (nk (by decide) (by decide) (by decide) (by decide)) (nk (by decide) (by decide) (by decide) (by decide)) hRm
    rw [e]
    exact this
  · exact TrOK.fr hF (nk (by decide) (by decide) (by decide) (by decide)) hTr
section Rm
variable {l : Launch} {b0 : Nat → Prop} {ad : Ads} {ns nt : Nat} {M : Mem}
theorem c_X6_shapeNumbered (hl : l.stackTraces = false) {S : Sg} (hG : GInv S) (hRm : RepRm S M) (a : Int) (ha : -2147483648 ≤ a ∧ a ≤ 2147483647) : Con l b0 yX6_shapeNumbered cX6_shapeNumbered 2 (some (.object "CuttingRoom$Shape")) 1 0 0 [aO 0 0, aI a] ad (cnt ns nt) M (fun r9 M' => M' = M ∧ r9 = some (aR (if 0 ≤ a ∧ a < nsS S then some (4, a.toNat) else none))) noX := by
  obtain ⟨k1, k2, k3, k4, k5⟩ := hRm
  have g6 := hG.2.2.2.2.2.1
  refine Con.of hl pl_X6 (Nat.le_of_ble_eq_true rfl) ?_
  intro D cA p e s m args below meth c C hr
  refine w_iload_n C dX6_shapeNumbered_0 rfl ?_
  refine w_if_lt C dX6_shapeNumbered_1 (by omega) (fun h1 => ?_) (fun h1 => ?_)
  · refine w_null C dX6_shapeNumbered_22 ?_
    refine w_aret C hr (Or.inl ⟨_, rfl⟩) dX6_shapeNumbered_23 (⟨rfl, by rw [if_neg (by omega)]⟩) (by decide) (by decide)
  · refine w_iload_n C dX6_shapeNumbered_4 rfl ?_
    refine w_aload_n C dX6_shapeNumbered_5 rfl ?_
    refine g_X6_25 C dX6_shapeNumbered_6 (by first | assumption | exact Nat.zero_lt_one | exact Nat.zero_lt_two | exact Nat.one_lt_two) ?_
    refine w_alen C dX6_shapeNumbered_9 (show inD (cnt ns nt) 10 0 from Nat.zero_lt_one) (Or.inr (Or.inr (Or.inr ⟨5, 4, by decide, RA_10⟩))) ?_
    refine w_icmp_ge C dX6_shapeNumbered_10 (by omega) (by omega) (fun h10 => ?_) (fun h10 => ?_)
    · refine w_null C dX6_shapeNumbered_22 ?_
      refine w_aret C hr (Or.inl ⟨_, rfl⟩) dX6_shapeNumbered_23 (⟨rfl, by rw [if_neg (by omega)]⟩) (by decide) (by decide)
    · refine w_aload_n C dX6_shapeNumbered_13 rfl ?_
      refine g_X6_25 C dX6_shapeNumbered_14 (by first | assumption | exact Nat.zero_lt_one | exact Nat.zero_lt_two | exact Nat.one_lt_two) ?_
      refine w_iload_n C dX6_shapeNumbered_17 rfl ?_
      refine w_aald C dX6_shapeNumbered_18 (show inD (cnt ns nt) 10 0 from Nat.zero_lt_one) RA_10 rfl (by omega) ?_
      rw [k4 a.toNat (by omega)]
      refine w_goto C dX6_shapeNumbered_19 ?_
      refine w_aret C hr (Or.inl ⟨_, rfl⟩) dX6_shapeNumbered_23 (⟨rfl, ?_⟩) (by decide) (by decide)
      by_cases h : a.toNat < nsS S
      · rw [if_pos h, if_pos (by omega)]
        rfl
      · rw [if_neg h, if_neg (by omega)]
        rfl
theorem c_X6_shapeOrThrow (hl : l.stackTraces = false) {S : Sg} (hG : GInv S) (hRm : RepRm S M) (a : Int) (ha : -2147483648 ≤ a ∧ a ≤ 2147483647) : Con l b0 yX6_shapeOrThrow cX6_shapeOrThrow 3 (some (.object "CuttingRoom$Shape")) 9 1 6 [aO 0 0, aI a] ad (cnt ns nt) M (fun r9 M' => M' = M ∧ (0 ≤ a ∧ a < nsS S) ∧ r9 = some (aO 4 a.toNat)) (fun E M' => E = eIO ∧ M' = M ∧ ¬ (0 ≤ a ∧ a < nsS S)) := by
  refine Con.of hl pl_X6 (Nat.le_of_ble_eq_true rfl) ?_
  intro D cA p e s m args below meth c C hr
  refine w_aload_n C dX6_shapeOrThrow_0 rfl ?_
  refine w_iload_n C dX6_shapeOrThrow_1 rfl ?_
  refine w_callV C dX6_shapeOrThrow_2 (c_X6_shapeNumbered hl hG hRm a ha) mX6_shapeNumbered vX6_shapeNumbered lk_X6_169 (by first | assumption | exact Nat.zero_lt_one | exact Nat.zero_lt_two | exact Nat.one_lt_two) rfl rfl rfl rfl ⟨by decide, by decide, by decide, by decide⟩ (Nat.le_of_ble_eq_true rfl) (fun _ _ h => h.elim) ⟨by decide, by decide⟩ (fun r_ M_ q2 => ?_)
  obtain ⟨rfl, rfl⟩ := q2
  by_cases h : 0 ≤ a ∧ a < nsS S
  · rw [if_pos h]
    refine w_astore_n C dX6_shapeOrThrow_5 (by decide) ?_
    refine w_aload_n C dX6_shapeOrThrow_6 rfl ?_
    refine w_ifnonnull C dX6_shapeOrThrow_7 (fun h7 => ?_) (fun h7 => ?_)
    · refine w_aload_n C dX6_shapeOrThrow_20 rfl ?_
      refine w_aret C hr (Or.inl ⟨_, rfl⟩) dX6_shapeOrThrow_21 (⟨rfl, h, rfl⟩) (by decide) (by decide)
    · cases h7
  · rw [if_neg h]
    refine w_astore_n C dX6_shapeOrThrow_5 (by decide) ?_
    refine w_aload_n C dX6_shapeOrThrow_6 rfl ?_
    refine w_ifnonnull C dX6_shapeOrThrow_7 (fun h7 => ?_) (fun h7 => ?_)
    · obtain ⟨_, h7⟩ := h7
      cases h7
    · refine w_throw C tk_172_176 ts_174 dX6_shapeOrThrow_10 dX6_shapeOrThrow_13 dX6_shapeOrThrow_14 dX6_shapeOrThrow_16 dX6_shapeOrThrow_19 ⟨by decide, by decide, by decide, by decide⟩ (Nat.le_of_ble_eq_true rfl) (⟨rfl, rfl, h⟩) (by decide) (by decide)
theorem c_X6_cellsOf (hl : l.stackTraces = false) {S : Sg} {P : List Pc} {nx : Nat} (hI : Inv S P nx) (hns : nsS S ≤ ns) (hR : RepRoom S P nx M) (a : Int) (ha : -2147483648 ≤ a ∧ a ≤ 2147483647) : Con l b0 yX6_cellsOf cX6_cellsOf 2 (some .int) 10 1 6 [aO 0 0, aI a] ad (cnt ns nt) M (okR (oCellsOf a S P nx)) (exR (oCellsOf a S P nx) [eIO]) := by
  have hR' := hR
  obtain ⟨hCl, hSh, hM, hSt, hRm, hTr⟩ := hR'
  refine Con.of hl pl_X6 (Nat.le_of_ble_eq_true rfl) ?_
  intro D cA p e s m args below meth c C hr
  have X0 : ∀ (E9 : String) (M9 : Mem), (E9 = eIO ∧ M9 = M ∧ ¬ (0 ≤ a ∧ a < nsS S)) → exR (oCellsOf a S P nx) [eIO] E9 M9 := fun E9 M9 h9 => by
    obtain ⟨rfl, rfl, h9⟩ := h9
    exact exR_of (i := 0) (by unfold oCellsOf; rw [if_pos h9]) rfl hR
  refine w_aload_n C dX6_cellsOf_0 rfl ?_
  refine w_iload_n C dX6_cellsOf_1 rfl ?_
  refine w_callV C dX6_cellsOf_2 (c_X6_shapeOrThrow hl hI.1 hRm a ha) mX6_shapeOrThrow vX6_shapeOrThrow lk_X6_131 (by first | assumption | exact Nat.zero_lt_one | exact Nat.zero_lt_two | exact Nat.one_lt_two) rfl rfl rfl rfl ⟨by decide, by decide, by decide, by decide⟩ (Nat.le_of_ble_eq_true rfl) X0 ⟨by decide, by decide⟩ (fun r_ M_ q2 => ?_)
  obtain ⟨rfl, hj, rfl⟩ := q2
  have i4 : inD (cnt ns nt) 4 a.toNat := by
    show a.toNat < ns
    omega
  refine g_X6_155 C dX6_cellsOf_5 (by first | assumption | exact Nat.zero_lt_one | exact Nat.zero_lt_two | exact Nat.one_lt_two) ?_
  rw [(hSh a.toNat (by omega)).1.2.2.1]
  refine w_iret C hr dX6_cellsOf_8 rfl (okR_of (by unfold oCellsOf; rw [if_neg (fun q => q hj)]) rfl hR) (by decide) (by decide)
theorem c_X6_addCell (hl : l.stackTraces = false) {S : Sg} {P : List Pc} {nx : Nat} (hI : Inv S P nx) (hns : nsS S ≤ ns) (hE : ∀ j, eS S j < 1000000000) (hR : RepRoom S P nx M) (a b c' : Int) (ha : -2147483648 ≤ a ∧ a ≤ 2147483647) (hb : -2147483648 ≤ b ∧ b ≤ 2147483647) (hc : -2147483648 ≤ c' ∧ c' ≤ 2147483647) : Con l b0 yX6_addCell cX6_addCell 5 (some .int) 10 2 12 [aO 0 0, aI a, aI b, aI c'] ad (cnt ns nt) M (okR (oAddCell a b c' S P nx)) (exR (oAddCell a b c' S P nx) [eIO, eIA, eUO, eIS]) := by
  have hR' := hR
  obtain ⟨hCl, hSh, ⟨f, hM⟩, hSt, hRm, hTr⟩ := hR'
  have b1 := b2_01 (0 ≤ b ∧ b ≤ 4)
  have b2' := b2_01 (0 ≤ c' ∧ c' ≤ 4)
  refine Con.of hl pl_X6 (Nat.le_of_ble_eq_true rfl) ?_
  intro D cA p e s m args below meth c C hr
  have T25 : ∀ lv, (0 ≤ a ∧ a < nsS S) → ¬ ((0 ≤ b ∧ b ≤ 4) ∧ 0 ≤ c' ∧ c' ≤ 4) → Wm p l e (rmd 10 2 12) s m args below meth c 5 D cA b0 1 6 (vx_MQ below (mQ D cA b0 ad (cnt ns nt) (okR (oAddCell a b c' S P nx))) (mX D cA b0 ad (cnt ns nt) (exR (oAddCell a b c' S P nx) [eIO, eIA, eUO, eIS])) args s 2 12 b0) 25 lv [] ad (cnt ns nt) M := by
    intro lv hj hno
    refine w_throw C tk_52_56 ts_135 dX6_addCell_25 dX6_addCell_28 dX6_addCell_29 dX6_addCell_31 dX6_addCell_34 ⟨by decide, by decide, by decide, by decide⟩ (Nat.le_of_ble_eq_true rfl) (exR_of (i := 1) (by unfold oAddCell; rw [if_neg (fun q => q hj), if_pos hno]) rfl hR) (by decide) (by decide)
  have T77 : ∀ lv, (0 ≤ a ∧ a < nsS S) → ((0 ≤ b ∧ b ≤ 4) ∧ 0 ≤ c' ∧ c' ≤ 4) → ¬ drS S a.toNat (5 * b.toNat + c'.toNat) ≠ 0 → (heldS P a.toNat = true ∨ 0 < eS S a.toNat) → Wm p l e (rmd 10 2 12) s m args below meth c 5 D cA b0 1 6 (vx_MQ below (mQ D cA b0 ad (cnt ns nt) (okR (oAddCell a b c' S P nx))) (mX D cA b0 ad (cnt ns nt) (exR (oAddCell a b c' S P nx) [eIO, eIA, eUO, eIS])) args s 2 12 b0) 77 lv [] ad (cnt ns nt) M := by
    intro lv hj hno h9 h8
    refine w_throw C tk_66_70 ts_150 dX6_addCell_77 dX6_addCell_80 dX6_addCell_81 dX6_addCell_83 dX6_addCell_86 ⟨by decide, by decide, by decide, by decide⟩ (Nat.le_of_ble_eq_true rfl) (exR_of (i := 3) (by unfold oAddCell; rw [if_neg (fun q => q hj), if_neg (fun q => q hno), if_neg h9, if_pos h8]) rfl hR) (by decide) (by decide)
  have X0 : ∀ (E9 : String) (M9 : Mem), (E9 = eIO ∧ M9 = M ∧ ¬ (0 ≤ a ∧ a < nsS S)) → exR (oAddCell a b c' S P nx) [eIO, eIA, eUO, eIS] E9 M9 := fun E9 M9 h9 => by
    obtain ⟨rfl, rfl, h9⟩ := h9
    exact exR_of (i := 0) (by unfold oAddCell; rw [if_pos h9]) rfl hR
  refine w_aload_n C dX6_addCell_0 rfl ?_
  refine w_iload_n C dX6_addCell_1 rfl ?_
  refine w_callV C dX6_addCell_2 (c_X6_shapeOrThrow hl hI.1 hRm a ha) mX6_shapeOrThrow vX6_shapeOrThrow lk_X6_131 (by first | assumption | exact Nat.zero_lt_one | exact Nat.zero_lt_two | exact Nat.one_lt_two) rfl rfl rfl rfl ⟨by decide, by decide, by decide, by decide⟩ (Nat.le_of_ble_eq_true rfl) X0 ⟨by decide, by decide⟩ (fun r_ M_ q2 => ?_)
  obtain ⟨rfl, hj, rfl⟩ := q2
  have i4 : inD (cnt ns nt) 4 a.toNat := by
    show a.toNat < ns
    omega
  have i30 : inD (cnt ns nt) 30 a.toNat := by
    show a.toNat < ns
    omega
  obtain ⟨s1, s2, s3⟩ := hSh a.toNat (by omega)
  obtain ⟨p1, p2, p3, p4, p5, p6, p7, p8, p9⟩ := hI.1.2.2.2.2.2.2.2.2.2.1 a.toNat
  refine w_astore C dX6_addCell_5 (by decide) ?_
  refine w_iload_n C dX6_addCell_7 rfl ?_
  refine w_iconst C dX6_addCell_8 ?_
  refine w_iconst C dX6_addCell_9 ?_
  refine w_callS C dX6_addCell_10 (c_X6_isWithin hl b 0 4 (by omega) (by omega) (by omega)) mX6_isWithin sX6_isWithin lk_X6_48 rfl rfl ⟨by decide, by decide, by decide, by decide⟩ (Nat.le_of_ble_eq_true rfl) (fun _ _ h => h.elim) ⟨by decide, by decide⟩ (fun r_ M_ q10 => ?_)
  obtain ⟨rfl, rfl⟩ := q10
  refine w_if_eq C dX6_addCell_13 (by omega) (fun h13 => ?_) (fun h13 => ?_)
  · exact T25 _ hj (fun q => by rw [b2_t q.1] at h13; omega)
  · have y1 : 0 ≤ b ∧ b ≤ 4 := Decidable.byContradiction fun q => h13 (b2_f q)
    refine w_iload_n C dX6_addCell_16 rfl ?_
    refine w_iconst C dX6_addCell_17 ?_
    refine w_iconst C dX6_addCell_18 ?_
    refine w_callS C dX6_addCell_19 (c_X6_isWithin hl c' 0 4 (by omega) (by omega) (by omega)) mX6_isWithin sX6_isWithin lk_X6_48 rfl rfl ⟨by decide, by decide, by decide, by decide⟩ (Nat.le_of_ble_eq_true rfl) (fun _ _ h => h.elim) ⟨by decide, by decide⟩ (fun r_ M_ q19 => ?_)
    obtain ⟨rfl, rfl⟩ := q19
    refine w_if_ne C dX6_addCell_22 (by omega) (fun h22 => ?_) (fun h22 => ?_)
    · have y2 : 0 ≤ c' ∧ c' ≤ 4 := Decidable.byContradiction fun q => h22 (b2_f q)
      have y0 := And.intro y1 y2
      obtain ⟨u, rfl⟩ := Int.eq_ofNat_of_zero_le y1.1
      obtain ⟨v, rfl⟩ := Int.eq_ofNat_of_zero_le y2.1
      have b3 := b2_01 (dB S a.toNat (5 * u + v) = true)
      have edr : dB S a.toNat (5 * u + v) = true ↔ drS S a.toNat (5 * u + v) ≠ 0 := by
        unfold dB
        rw [decide_eq_true_iff]
      rw [Int.toNat_natCast, Int.toNat_natCast] at T77
      have Eq : oAddCell a u v S P nx = if drS S a.toNat (5 * u + v) ≠ 0 then (3, 0, S, P, nx) else if heldS P a.toNat = true ∨ 0 < eS S a.toNat then (4, 0, S, P, nx) else (0, (szS S a.toNat : Int) + 1, up3 (up3 S 9 a.toNat (5 * u + v) 1) 10 a.toNat 0 (szS S a.toNat + 1), P, nx) := by
        unfold oAddCell
        rw [if_neg (fun q => q hj), if_neg (fun q => q y0), Int.toNat_natCast, Int.toNat_natCast]
      refine w_aload C dX6_addCell_35 rfl ?_
      refine w_iload_n C dX6_addCell_37 rfl ?_
      refine w_iload_n C dX6_addCell_38 rfl ?_
      refine w_callV C dX6_addCell_39 (c_X4_hasCell hl i4 i30 (f := fun r i => dB S a.toNat (5 * r + i)) s1.2.2.2.2.2.2.1 u v (by omega) (by omega)) mX4_hasCell vX4_hasCell lk_X6_137 (by first | assumption | exact Nat.zero_lt_one | exact Nat.zero_lt_two | exact Nat.one_lt_two) rfl rfl rfl rfl ⟨by decide, by decide, by decide, by decide⟩ (Nat.le_of_ble_eq_true rfl) (fun _ _ h => h.elim) ⟨by decide, by decide⟩ (fun r_ M_ q39 => ?_)
      obtain ⟨rfl, rfl⟩ := q39
      refine w_if_eq C dX6_addCell_42 (by omega) (fun h42 => ?_) (fun h42 => ?_)
      · have y3 : ¬ drS S a.toNat (5 * u + v) ≠ 0 := fun q => by
          rw [b2_t (edr.mpr q)] at h42
          omega
        refine w_aload_n C dX6_addCell_55 rfl ?_
        refine g_X6_19 C dX6_addCell_56 (by first | assumption | exact Nat.zero_lt_one | exact Nat.zero_lt_two | exact Nat.one_lt_two) ?_
        refine w_aload C dX6_addCell_59 rfl ?_
        refine w_callV C dX6_addCell_61 (c_X1_holds hl (show inD (cnt ns nt) 2 0 from Nat.zero_lt_two) hI.2.2.1 hM hI.2.1 hns i4) mX1_holds vX1_holds lk_X6_142 (by first | assumption | exact Nat.zero_lt_one | exact Nat.zero_lt_two | exact Nat.one_lt_two) rfl rfl rfl rfl ⟨by decide, by decide, by decide, by decide⟩ (Nat.le_of_ble_eq_true rfl) (fun _ _ h => h.elim) ⟨by decide, by decide⟩ (fun r_ M_ q61 => ?_)
        obtain ⟨rfl, z, rfl, hz, hzi⟩ := q61
        refine w_if_ne C dX6_addCell_64 (by omega) (fun h64 => ?_) (fun h64 => ?_)
        · have y4 : heldS P a.toNat = true := heldS_iff.mpr (hzi.mp (by omega))
          exact T77 _ hj y0 y3 (Or.inl y4)
        · have y4 : ¬ heldS P a.toNat = true := fun q => h64 (by rw [hzi.mpr (heldS_iff.mp q)]; decide)
          have hEj := hE a.toNat
          refine w_aload C dX6_addCell_67 rfl ?_
          refine g_X6_146 C dX6_addCell_69 (by first | assumption | exact Nat.zero_lt_one | exact Nat.zero_lt_two | exact Nat.one_lt_two) ?_
          rw [s2.2.2]
          refine w_lconst C dX6_addCell_72 ?_
          refine w_lcmp C dX6_addCell_73 (by omega) (by omega) ?_
          by_cases hz0 : 0 < eS S a.toNat
          · rw [if_neg (by omega), if_neg (by omega)]
            refine w_if_le C dX6_addCell_74 (by omega) (fun h74 => ?_) (fun h74 => ?_)
            · omega
            · exact T77 _ hj y0 y3 (Or.inr hz0)
          · rw [if_neg (by omega), if_pos (by omega)]
            refine w_if_le C dX6_addCell_74 (by omega) (fun h74 => ?_) (fun h74 => ?_)
            · refine w_aload C dX6_addCell_87 rfl ?_
              refine w_iload_n C dX6_addCell_89 rfl ?_
              refine w_iload_n C dX6_addCell_90 rfl ?_
              refine w_callV C dX6_addCell_91 (c_X4_draw hl hI.1 (show a.toNat < ns by omega) s1 s2 (fun o ho => ⟨(s3 o ho).1, (s3 o ho).2.1, (s3 o ho).2.2.1⟩) u v (by omega) (by omega) (Decidable.not_not.mp y3)) mX4_draw vX4_draw lk_X6_152 (by first | assumption | exact Nat.zero_lt_one | exact Nat.zero_lt_two | exact Nat.one_lt_two) rfl rfl rfl rfl ⟨by decide, by decide, by decide, by decide⟩ (Nat.le_of_ble_eq_true rfl) (fun _ _ h => h.elim) ⟨by decide, by decide⟩ (fun r_ M2 q91 => ?_)
              obtain ⟨k1, k2, k3, k4, rfl⟩ := q91
              refine w_aload C dX6_addCell_94 rfl ?_
              refine g_X6_155 C dX6_addCell_96 (by first | assumption | exact Nat.zero_lt_one | exact Nat.zero_lt_two | exact Nat.one_lt_two) ?_
              rw [k2.2.2.1]
              refine Wm.top (v' := aI ((szS S a.toNat : Int) + 1)) (by simp [szS, up3]) ?_
              refine w_iret C hr dX6_addCell_99 rfl (okR_of (nx' := nx) (P' := P) (S' := up3 (up3 S 9 a.toNat (5 * u + v) 1) 10 a.toNat 0 (szS S a.toNat + 1)) (by rw [Eq, if_neg y3, if_neg (by rintro (q | q); exact y4 q; exact hz0 q)]) rfl (RepRoom.sh (S := S) (j := a.toNat) hI.2.2.1 k1 (fun f i k hf => by simp only [up3]; rw [if_neg (by omega), if_neg (by omega)]) (fun p hp q => y4 (heldS_iff.mpr ⟨p, hp, q⟩)) k2 k3 k4 hR)) (by decide) (by decide)
            · omega
      · have y3 : drS S a.toNat (5 * u + v) ≠ 0 := edr.mp (Decidable.byContradiction fun q => h42 (b2_f q))
        refine w_throw C tk_96_100 ts_140 dX6_addCell_45 dX6_addCell_48 dX6_addCell_49 dX6_addCell_51 dX6_addCell_54 ⟨by decide, by decide, by decide, by decide⟩ (Nat.le_of_ble_eq_true rfl) (exR_of (i := 2) (by rw [Eq, if_pos y3]) rfl hR) (by decide) (by decide)
    · exact T25 _ hj (fun q => by rw [b2_t q.2] at h22; omega)
theorem c_X6_setMark (hl : l.stackTraces = false) {S : Sg} {P : List Pc} {nx : Nat} (hI : Inv S P nx) (hns : nsS S ≤ ns) (hR : RepRoom S P nx M) (a g b c' : Int) (ha : -2147483648 ≤ a ∧ a ≤ 2147483647) (hg : -2147483648 ≤ g ∧ g ≤ 2147483647) (hb : -2147483648 ≤ b ∧ b ≤ 2147483647) (hc : -2147483648 ≤ c' ∧ c' ≤ 2147483647) : Con l b0 yX6_setMark cX6_setMark 7 (some .int) 10 2 12 [aO 0 0, aI a, aI g, aI b, aI c'] ad (cnt ns nt) M (okR (oSetMark a g b c' S P nx)) (exR (oSetMark a g b c' S P nx) [eIO, eIA, eIS]) := by
  have hR' := hR
  obtain ⟨hCl, hSh, ⟨f, hM⟩, hSt, hRm, hTr⟩ := hR'
  have b0' := b2_01 (-1 ≤ g ∧ g ≤ 3)
  have b1 := b2_01 (0 ≤ b ∧ b ≤ 4)
  have b2' := b2_01 (0 ≤ c' ∧ c' ≤ 4)
  refine Con.of hl pl_X6 (Nat.le_of_ble_eq_true rfl) ?_
  intro D cA p e s m args below meth c C hr
  have T35 : ∀ lv, (0 ≤ a ∧ a < nsS S) → ¬ ((-1 ≤ g ∧ g ≤ 3) ∧ (0 ≤ b ∧ b ≤ 4) ∧ 0 ≤ c' ∧ c' ≤ 4) → Wm p l e (rmd 10 2 12) s m args below meth c 7 D cA b0 1 6 (vx_MQ below (mQ D cA b0 ad (cnt ns nt) (okR (oSetMark a g b c' S P nx))) (mX D cA b0 ad (cnt ns nt) (exR (oSetMark a g b c' S P nx) [eIO, eIA, eIS])) args s 2 12 b0) 35 lv [] ad (cnt ns nt) M := by
    intro lv hj hno
    refine w_throw C tk_52_56 ts_158 dX6_setMark_35 dX6_setMark_38 dX6_setMark_39 dX6_setMark_41 dX6_setMark_44 ⟨by decide, by decide, by decide, by decide⟩ (Nat.le_of_ble_eq_true rfl) (exR_of (i := 1) (by unfold oSetMark; rw [if_neg (fun q => q hj), if_pos hno]) rfl hR) (by decide) (by decide)
  have X0 : ∀ (E9 : String) (M9 : Mem), (E9 = eIO ∧ M9 = M ∧ ¬ (0 ≤ a ∧ a < nsS S)) → exR (oSetMark a g b c' S P nx) [eIO, eIA, eIS] E9 M9 := fun E9 M9 h9 => by
    obtain ⟨rfl, rfl, h9⟩ := h9
    exact exR_of (i := 0) (by unfold oSetMark; rw [if_pos h9]) rfl hR
  refine w_aload_n C dX6_setMark_0 rfl ?_
  refine w_iload_n C dX6_setMark_1 rfl ?_
  refine w_callV C dX6_setMark_2 (c_X6_shapeOrThrow hl hI.1 hRm a ha) mX6_shapeOrThrow vX6_shapeOrThrow lk_X6_131 (by first | assumption | exact Nat.zero_lt_one | exact Nat.zero_lt_two | exact Nat.one_lt_two) rfl rfl rfl rfl ⟨by decide, by decide, by decide, by decide⟩ (Nat.le_of_ble_eq_true rfl) X0 ⟨by decide, by decide⟩ (fun r_ M_ q2 => ?_)
  obtain ⟨rfl, hj, rfl⟩ := q2
  have i4 : inD (cnt ns nt) 4 a.toNat := by
    show a.toNat < ns
    omega
  obtain ⟨s1, s2, s3⟩ := hSh a.toNat (by omega)
  refine w_astore C dX6_setMark_5 (by decide) ?_
  refine w_iload_n C dX6_setMark_7 rfl ?_
  refine w_iconst C dX6_setMark_8 ?_
  refine w_iconst C dX6_setMark_9 ?_
  refine w_callS C dX6_setMark_10 (c_X6_isWithin hl g (-1) 3 (by omega) (by omega) (by omega)) mX6_isWithin sX6_isWithin lk_X6_48 rfl rfl ⟨by decide, by decide, by decide, by decide⟩ (Nat.le_of_ble_eq_true rfl) (fun _ _ h => h.elim) ⟨by decide, by decide⟩ (fun r_ M_ q10 => ?_)
  obtain ⟨rfl, rfl⟩ := q10
  refine w_if_eq C dX6_setMark_13 (by omega) (fun h13 => ?_) (fun h13 => ?_)
  · exact T35 _ hj (fun q => by rw [b2_t q.1] at h13; omega)
  · have y0 : -1 ≤ g ∧ g ≤ 3 := Decidable.byContradiction fun q => h13 (b2_f q)
    refine w_iload_n C dX6_setMark_16 rfl ?_
    refine w_iconst C dX6_setMark_17 ?_
    refine w_iconst C dX6_setMark_18 ?_
    refine w_callS C dX6_setMark_19 (c_X6_isWithin hl b 0 4 (by omega) (by omega) (by omega)) mX6_isWithin sX6_isWithin lk_X6_48 rfl rfl ⟨by decide, by decide, by decide, by decide⟩ (Nat.le_of_ble_eq_true rfl) (fun _ _ h => h.elim) ⟨by decide, by decide⟩ (fun r_ M_ q19 => ?_)
    obtain ⟨rfl, rfl⟩ := q19
    refine w_if_eq C dX6_setMark_22 (by omega) (fun h22 => ?_) (fun h22 => ?_)
    · exact T35 _ hj (fun q => by rw [b2_t q.2.1] at h22; omega)
    · have y1 : 0 ≤ b ∧ b ≤ 4 := Decidable.byContradiction fun q => h22 (b2_f q)
      refine w_iload C dX6_setMark_25 rfl ?_
      refine w_iconst C dX6_setMark_27 ?_
      refine w_iconst C dX6_setMark_28 ?_
      refine w_callS C dX6_setMark_29 (c_X6_isWithin hl c' 0 4 (by omega) (by omega) (by omega)) mX6_isWithin sX6_isWithin lk_X6_48 rfl rfl ⟨by decide, by decide, by decide, by decide⟩ (Nat.le_of_ble_eq_true rfl) (fun _ _ h => h.elim) ⟨by decide, by decide⟩ (fun r_ M_ q29 => ?_)
      obtain ⟨rfl, rfl⟩ := q29
      refine w_if_ne C dX6_setMark_32 (by omega) (fun h32 => ?_) (fun h32 => ?_)
      · have y2 : 0 ≤ c' ∧ c' ≤ 4 := Decidable.byContradiction fun q => h32 (b2_f q)
        have y3 := And.intro y0 (And.intro y1 y2)
        obtain ⟨u, rfl⟩ := Int.eq_ofNat_of_zero_le y1.1
        obtain ⟨v, rfl⟩ := Int.eq_ofNat_of_zero_le y2.1
        obtain ⟨w, rfl⟩ : ∃ w : Nat, g = (w : Int) - 1 := ⟨(g + 1).toNat, by omega⟩
        have ew : ((w : Int) - 1 + 1).toNat = w := by omega
        have Eq : oSetMark a ((w : Int) - 1) u v S P nx = if heldS P a.toNat = true then (3, 0, S, P, nx) else (0, (gpS S a.toNat : Int) - 1, up3 (up3 (up3 S 11 a.toNat 0 w) 12 a.toNat 0 u) 13 a.toNat 0 v, P, nx) := by
          unfold oSetMark
          rw [if_neg (fun q => q hj), if_neg (fun q => q y3), Int.toNat_natCast, Int.toNat_natCast, ew]
        refine w_aload_n C dX6_setMark_45 rfl ?_
        refine g_X6_19 C dX6_setMark_46 (by first | assumption | exact Nat.zero_lt_one | exact Nat.zero_lt_two | exact Nat.one_lt_two) ?_
        refine w_aload C dX6_setMark_49 rfl ?_
        refine w_callV C dX6_setMark_51 (c_X1_holds hl (show inD (cnt ns nt) 2 0 from Nat.zero_lt_two) hI.2.2.1 hM hI.2.1 hns i4) mX1_holds vX1_holds lk_X6_142 (by first | assumption | exact Nat.zero_lt_one | exact Nat.zero_lt_two | exact Nat.one_lt_two) rfl rfl rfl rfl ⟨by decide, by decide, by decide, by decide⟩ (Nat.le_of_ble_eq_true rfl) (fun _ _ h => h.elim) ⟨by decide, by decide⟩ (fun r_ M_ q51 => ?_)
        obtain ⟨rfl, z, rfl, hz, hzi⟩ := q51
        refine w_if_eq C dX6_setMark_54 (by omega) (fun h54 => ?_) (fun h54 => ?_)
        · have y4 : ¬ heldS P a.toNat = true := fun q => by
            rw [hzi.mpr (heldS_iff.mp q)] at h54
            omega
          refine w_aload C dX6_setMark_67 rfl ?_
          refine g_X6_162 C dX6_setMark_69 (by first | assumption | exact Nat.zero_lt_one | exact Nat.zero_lt_two | exact Nat.one_lt_two) ?_
          rw [s1.2.2.2.1]
          refine w_istore C dX6_setMark_72 (by decide) ?_
          refine w_aload C dX6_setMark_74 rfl ?_
          refine w_iload_n C dX6_setMark_76 rfl ?_
          refine w_iload_n C dX6_setMark_77 rfl ?_
          refine w_iload C dX6_setMark_78 rfl ?_
          refine w_callV C dX6_setMark_80 (c_X4_mark hl (show a.toNat < ns by omega) s1 s2 (fun o ho => ⟨(s3 o ho).1, (s3 o ho).2.1, (s3 o ho).2.2.1⟩) w u v (by omega) (by omega) (by omega)) mX4_mark vX4_mark lk_X6_165 (by first | assumption | exact Nat.zero_lt_one | exact Nat.zero_lt_two | exact Nat.one_lt_two) rfl rfl rfl rfl ⟨by decide, by decide, by decide, by decide⟩ (Nat.le_of_ble_eq_true rfl) (fun _ _ h => h.elim) ⟨by decide, by decide⟩ (fun r_ M2 q80 => ?_)
          obtain ⟨k1, k2, k3, k4, rfl⟩ := q80
          refine w_iload C dX6_setMark_83 rfl ?_
          refine w_iret C hr dX6_setMark_85 rfl (okR_of (nx' := nx) (P' := P) (S' := up3 (up3 (up3 S 11 a.toNat 0 w) 12 a.toNat 0 u) 13 a.toNat 0 v) (by rw [Eq, if_neg y4]) rfl (RepRoom.sh (S := S) (j := a.toNat) hI.2.2.1 k1 (fun f i k hf => by simp only [up3]; rw [if_neg (by omega), if_neg (by omega), if_neg (by omega)]) (fun p hp q => y4 (heldS_iff.mpr ⟨p, hp, q⟩)) k2 k3 k4 hR)) (by decide) (by decide)
        · have y4 : heldS P a.toNat = true := heldS_iff.mpr (hzi.mp (by omega))
          refine w_throw C tk_66_70 ts_160 dX6_setMark_57 dX6_setMark_60 dX6_setMark_61 dX6_setMark_63 dX6_setMark_66 ⟨by decide, by decide, by decide, by decide⟩ (Nat.le_of_ble_eq_true rfl) (exR_of (i := 2) (by rw [Eq, if_pos y4]) rfl hR) (by decide) (by decide)
      · exact T35 _ hj (fun q => by rw [b2_t q.2.2] at h32; omega)
end Rm
