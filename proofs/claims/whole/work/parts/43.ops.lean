/-! the room as a whole; its calls as functions of the abstract state -/
abbrev Res : Type := Nat × Int × Sg × List Pc × Nat
def TrOK (M : Mem) : Prop := ∃ f : Nat → Nat, (∀ i, i < 40 → f i < 40 ∧ M.2.1 12 1 i = some (40 * 1 + f i)) ∧ (∀ i j, i < 40 → j < 40 → f i = f j → i = j)
def RepRoom (S : Sg) (P : List Pc) (nx : Nat) (M : Mem) : Prop := RepCl S M ∧ RepSh S M ∧ RepMk 0 S P nx M ∧ RepSt S M ∧ RepRm S M ∧ TrOK M
def Inv (S : Sg) (P : List Pc) (nx : Nat) : Prop := GInv S ∧ PInv S P nx ∧ P.length ≤ 40 ∧ (nfS S = 0 → ∀ k, k < 720 → flS S k = 0)
def okR (o : Res) (r : Option AV) (M' : Mem) : Prop := o.1 = 0 ∧ r = some (aI o.2.1) ∧ RepRoom o.2.2.1 o.2.2.2.1 o.2.2.2.2 M'
def exR (o : Res) (es : List String) (E : String) (M' : Mem) : Prop := ∃ i, es[i]? = some E ∧ o.1 = i + 1 ∧ RepRoom o.2.2.1 o.2.2.2.1 o.2.2.2.2 M'
abbrev eIA : String := "java/lang/IllegalArgumentException"
abbrev eIS : String := "java/lang/IllegalStateException"
abbrev eUO : String := "java/lang/UnsupportedOperationException"
abbrev eIO : String := "java/lang/IndexOutOfBoundsException"
abbrev eNS : String := "java/util/NoSuchElementException"
abbrev eAR : String := "java/lang/ArithmeticException"
def oSetCloth (a : Int) (b : Nat) (c : Int) (S : Sg) (P : List Pc) (nx : Nat) : Res := if ¬ ((2 ≤ a ∧ a ≤ 12) ∧ 0 ≤ c ∧ c ≤ 6) then (1, 0, S, P, nx) else if 0 < P.length ∨ 0 < nfS S then (2, 0, S, P, nx) else (0, (wdS S : Int), up3 (up3 (up3 S 0 0 0 a.toNat) 1 0 0 b) 3 0 0 c.toNat, P, nx)
def oFold (b : Nat) (S : Sg) (P : List Pc) (nx : Nat) : Res := if 0 < P.length then (1, 0, S, P, nx) else (0, (fdS S : Int), up3 S 2 0 0 b, P, nx)
abbrev underS (S : Sg) (P : List Pc) (u v : Nat) : Prop := clo S P (12 * u + v) ≠ -1 ∨ (fdS S = 1 ∧ clo S P (12 * u + (wdS S - 1 - v)) ≠ -1)
def oAddFlaw (a b : Int) (S : Sg) (P : List Pc) (nx : Nat) : Res := if ¬ ((0 ≤ a ∧ a ≤ 59) ∧ 0 ≤ b ∧ b ≤ (wdS S : Int) - 1) then (1, 0, S, P, nx) else if underS S P a.toNat b.toNat then (2, 0, S, P, nx) else if flS S (12 * a.toNat + b.toNat) ≠ 0 then (0, (nfS S : Int), S, P, nx) else if 12 ≤ nfS S then (3, 0, S, P, nx) else (0, (nfS S : Int) + 1, up3 (up3 S 5 0 (12 * a.toNat + b.toNat) 1) 4 0 0 (nfS S + 1), P, nx)
def oClearFlaws (S : Sg) (P : List Pc) (nx : Nat) : Res := (0, (nfS S : Int), noFl S, P, nx)
theorem nc_cg {d d' : Nat → Bool} (h : d = d') : nc d = nc d' := by rw [h]
/-- what the marker's memory says depends on the shapes of its pieces and on the stripes alone -/
theorem cv_cg {S S' : Sg} {p : Pc} (h : dB S' (pShp p) = dB S (pShp p)) (r c : Nat) : cv S' p r c = cv S p r c := by
  unfold cv
  rw [h]
theorem clo_cg {S S' : Sg} {P : List Pc} (h : ∀ p ∈ P, dB S' (pShp p) = dB S (pShp p)) (k : Nat) : clo S' P k = clo S P k := by
  unfold clo
  induction P with
  | nil => rfl
  | cons a P ih =>
    rw [List.find?_cons, List.find?_cons, cv_cg (h a List.mem_cons_self)]
    cases cv S a (k / 12) (k % 12) with
    | true => rfl
    | false => exact ih fun p hp => h p (List.mem_cons_of_mem _ hp)
abbrev ShpCg (S S' : Sg) (j : Nat) : Prop := dB S' j = dB S j ∧ gpS S' j = gpS S j ∧ mrS S' j = mrS S j ∧ mcS S' j = mcS S j
theorem remP_cg {S S' : Sg} {p : Pc} (h : ShpCg S S' (pShp p)) (hs : srS S' = srS S) : remP S' p = remP S p := by
  obtain ⟨h1, h2, h3, h4⟩ := h
  unfold remP remS mkR
  rw [h1, h3, h4, hs]
theorem RepMF.cg {f : Nat → Nat} {mi : Nat} {S S' : Sg} {P : List Pc} {nx : Nat} {M : Mem} (h : ∀ p ∈ P, ShpCg S S' (pShp p)) (hs : P ≠ [] → srS S' = srS S) (hM : RepMF f mi S P nx M) : RepMF f mi S' P nx M := by
  obtain ⟨a1, a2, a3, a4, a5, a6, a7⟩ := hM
  have hc : ∀ k, clo S' P k = clo S P k := clo_cg fun p hp => (h p hp).1
  refine ⟨a1, a2, a3, fun k hk => by rw [hc, a4 k hk], fun r hr => ?_, fun g hg => ?_, fun p hp hg => ?_⟩
  · rw [a5 r hr]
    refine congrArg (fun z : Nat => (z : Int)) (bitsN_cg fun v hv => ?_)
    rw [hc]
  · rw [a6 g hg]
    refine congrArg (fun z : Nat => (z : Int)) ?_
    unfold inGr
    refine List.countP_congr fun p hp => ?_
    rw [(h p hp).2.1]
  · rw [(h p hp).2.1] at hg ⊢
    rw [remP_cg (h p hp) (hs (List.ne_nil_of_mem hp))]
    exact a7 p hp hg
theorem RepMk.cg {mi : Nat} {S S' : Sg} {P : List Pc} {nx : Nat} {M : Mem} (h : ∀ p ∈ P, ShpCg S S' (pShp p)) (hs : P ≠ [] → srS S' = srS S) (hM : RepMk mi S P nx M) : RepMk mi S' P nx M := by
  obtain ⟨f, hM⟩ := hM
  exact ⟨f, hM.cg h hs⟩
theorem TrOK.fr {K : Nat → Nat → Prop} {M M' : Mem} (hF : Fr K M M') (h : ¬ K 12 1) (hT : TrOK M) : TrOK M' := by
  obtain ⟨f, h1, h2⟩ := hT
  exact ⟨f, fun i hi => ⟨(h1 i hi).1, by rw [(hF 12 1 h).2.1]; exact (h1 i hi).2⟩, h2⟩
theorem okR_of {o : Res} {v : Int} {S' : Sg} {P' : List Pc} {nx' : Nat} {r : Option AV} {M' : Mem} (E : o = (0, v, S', P', nx')) (hr : r = some (aI v)) (h : RepRoom S' P' nx' M') : okR o r M' := by
  rw [E]
  exact ⟨rfl, hr, h⟩
theorem exR_of {o : Res} {i : Nat} {v : Int} {S' : Sg} {P' : List Pc} {nx' : Nat} {es : List String} {E' : String} {M' : Mem} (E : o = (i + 1, v, S', P', nx')) (hr : es[i]? = some E') (h : RepRoom S' P' nx' M') : exR o es E' M' := by
  rw [E]
  exact ⟨i, hr, rfl, h⟩
theorem ag6 {S S' : Sg} (h : ∀ f i k, 6 ≤ f → S' f i k = S f i k) : S' = fun f i k => if f < 6 then S' f i k else S f i k := by
  funext f i k
  split
  · rfl
  · exact h f i k (by omega)
theorem RepSh.cg6 {S S' : Sg} {M : Mem} (h : ∀ f i k, 6 ≤ f → S' f i k = S f i k) (hS : RepSh S M) : RepSh S' M := by
  rw [ag6 h]
  exact hS
theorem RepSt.cg6 {S S' : Sg} {M : Mem} (h : ∀ f i k, 6 ≤ f → S' f i k = S f i k) (hS : RepSt S M) : RepSt S' M := by
  rw [ag6 h]
  exact hS
theorem RepRm.cg6 {S S' : Sg} {M : Mem} (h : ∀ f i k, 6 ≤ f → S' f i k = S f i k) (hS : RepRm S M) : RepRm S' M := by
  rw [ag6 h]
  exact hS
theorem ShpCg.cg6 {S S' : Sg} (h : ∀ f i k, 6 ≤ f → S' f i k = S f i k) (j : Nat) : ShpCg S S' j := by
  refine ⟨?_, h 11 j 0 (by decide), h 12 j 0 (by decide), h 13 j 0 (by decide)⟩
  funext k
  unfold dB
  rw [show drS S' j k = drS S j k from h 9 j k (by decide)]
theorem ctK_n {k i : Nat} (h1 : k ≠ 1) (h2 : k ≠ 20) (h3 : k ≠ 21) : ¬ ctK k i := fun q => by
  rcases q.1 with q | q | q
  · exact h1 q
  · exact h2 q
  · exact h3 q
/-- only the cloth has changed -/
theorem RepRoom.ct {S S' : Sg} {P : List Pc} {nx : Nat} {M M' : Mem} (hP : P.length ≤ 40) (hF : Fr ctK M M') (h : ∀ f i k, 6 ≤ f → S' f i k = S f i k) (hs : P ≠ [] → srS S' = srS S) (hC : RepCl S' M') (hR : RepRoom S P nx M) : RepRoom S' P nx M' := by
  obtain ⟨-, hSh, hM, hSt, hRm, hTr⟩ := hR
  refine ⟨hC, RepSh.cg6 h (RepSh.fr hF (fun i => ⟨ctK_n (by decide) (by decide) (by decide), ctK_n (by decide) (by decide) (by decide), ctK_n (by decide) (by decide) (by decide), ctK_n (by decide) (by decide) (by decide), ctK_n (by decide) (by decide) (by decide)⟩) hSh), ?_, RepSt.cg6 h (RepSt.fr hF (fun i => ⟨ctK_n (by decide) (by decide) (by decide), ctK_n (by decide) (by decide) (by decide)⟩) hSt), RepRm.cg6 h (RepRm.fr hF (ctK_n (by decide) (by decide) (by decide)) (ctK_n (by decide) (by decide) (by decide)) (ctK_n (by decide) (by decide) (by decide)) hRm), TrOK.fr hF (ctK_n (by decide) (by decide) (by decide)) hTr⟩
  exact RepMk.cg (fun p _ => ShpCg.cg6 h _) hs (RepMk.fr hP hF ⟨ctK_n (by decide) (by decide) (by decide), ctK_n (by decide) (by decide) (by decide), ctK_n (by decide) (by decide) (by decide), ctK_n (by decide) (by decide) (by decide), ctK_n (by decide) (by decide) (by decide), ctK_n (by decide) (by decide) (by decide)⟩ (fun _ _ => ctK_n (by decide) (by decide) (by decide)) hM)
theorem bad0 {S : Sg} (hz : ∀ k, k < 720 → flS S k = 0) (hw : wdS S ≤ 12) {r v : Nat} (hr : r < 60) (hv : v < 12) : badS S r v = false := by
  unfold badS
  rw [hz (12 * r + v) (by omega)]
  by_cases h : v < wdS S
  · rw [hz (12 * r + (wdS S - 1 - v)) (by omega)]
    simp
  · simp [h]
section Rm
variable {l : Launch} {b0 : Nat → Prop} {ad : Ads} {ns nt : Nat} {M : Mem}
theorem c_X6_setCloth (hl : l.stackTraces = false) {S : Sg} {P : List Pc} {nx : Nat} (hI : Inv S P nx) (hR : RepRoom S P nx M) (a : Int) (b : Nat) (c' : Int) (ha : -2147483648 ≤ a ∧ a ≤ 2147483647) (hb : b ≤ 1) (hc : -2147483648 ≤ c' ∧ c' ≤ 2147483647) : Con l b0 yX6_setCloth cX6_setCloth 5 (some .int) 9 1 6 [aO 0 0, aI a, aI b, aI c'] ad (cnt ns nt) M (okR (oSetCloth a b c' S P nx)) (exR (oSetCloth a b c' S P nx) [eIA, eIS]) := by
  have hR' := hR
  obtain ⟨⟨⟨h1, h2, h3, h4, h5, h6⟩, h7⟩, hSh, ⟨f, hM⟩, hSt, hRm, hTr⟩ := hR'
  have hP := hI.2.2.1
  have a1 := hM.1
  have hwd := hI.1.1
  have hnf := hI.1.2.2.2.2.1
  have b1 := b2_01 (2 ≤ a ∧ a ≤ 12)
  have b2' := b2_01 (0 ≤ c' ∧ c' ≤ 6)
  refine Con.of hl pl_X6 (Nat.le_of_ble_eq_true rfl) ?_
  intro D cA p e s m args below meth c C hr
  have T20 : ∀ lv, ¬ ((2 ≤ a ∧ a ≤ 12) ∧ 0 ≤ c' ∧ c' ≤ 6) → Wm p l e (rmd 9 1 6) s m args below meth c 5 D cA b0 0 0 (vx_MQ below (mQ D cA b0 ad (cnt ns nt) (okR (oSetCloth a b c' S P nx))) (mX D cA b0 ad (cnt ns nt) (exR (oSetCloth a b c' S P nx) [eIA, eIS])) args s 1 6 b0) 20 lv [] ad (cnt ns nt) M := by
    intro lv hno
    refine w_throw C tk_52_56 ts_54 dX6_setCloth_20 dX6_setCloth_23 dX6_setCloth_24 dX6_setCloth_26 dX6_setCloth_29 ⟨by decide, by decide, by decide, by decide⟩ (Nat.le_of_ble_eq_true rfl) (exR_of (i := 0) (by unfold oSetCloth; rw [if_pos hno]) rfl hR) (by decide) (by decide)
  have E : (2 ≤ a ∧ a ≤ 12) ∧ 0 ≤ c' ∧ c' ≤ 6 → (0 < P.length ∨ 0 < nfS S) → oSetCloth a b c' S P nx = (2, 0, S, P, nx) := fun e1 e2 => by
    unfold oSetCloth
    rw [if_neg (fun q => q e1), if_pos e2]
  refine w_iload_n C dX6_setCloth_0 rfl ?_
  refine w_iconst C dX6_setCloth_1 ?_
  refine w_bipush (v := 12) C dX6_setCloth_2 rfl ?_
  refine w_callS C dX6_setCloth_4 (c_X6_isWithin hl a 2 12 (by omega) (by omega) (by omega)) mX6_isWithin sX6_isWithin lk_X6_48 rfl rfl ⟨by decide, by decide, by decide, by decide⟩ (Nat.le_of_ble_eq_true rfl) (fun _ _ h => h.elim) ⟨by decide, by decide⟩ (fun r_ M_ q4 => ?_)
  obtain ⟨rfl, rfl⟩ := q4
  refine w_if_eq C dX6_setCloth_7 (by omega) (fun h7 => ?_) (fun h7 => ?_)
  · exact T20 _ (fun q => by rw [b2_t q.1] at h7; omega)
  · have y1 : 2 ≤ a ∧ a ≤ 12 := Decidable.byContradiction fun q => h7 (b2_f q)
    refine w_iload_n C dX6_setCloth_10 rfl ?_
    refine w_iconst C dX6_setCloth_11 ?_
    refine w_bipush (v := 6) C dX6_setCloth_12 rfl ?_
    refine w_callS C dX6_setCloth_14 (c_X6_isWithin hl c' 0 6 (by omega) (by omega) (by omega)) mX6_isWithin sX6_isWithin lk_X6_48 rfl rfl ⟨by decide, by decide, by decide, by decide⟩ (Nat.le_of_ble_eq_true rfl) (fun _ _ h => h.elim) ⟨by decide, by decide⟩ (fun r_ M_ q14 => ?_)
    obtain ⟨rfl, rfl⟩ := q14
    refine w_if_ne C dX6_setCloth_17 (by omega) (fun h17 => ?_) (fun h17 => ?_)
    · have y2 : 0 ≤ c' ∧ c' ≤ 6 := Decidable.byContradiction fun q => h17 (b2_f q)
      refine w_aload_n C dX6_setCloth_30 rfl ?_
      refine g_X6_19 C dX6_setCloth_31 (by first | assumption | exact Nat.zero_lt_one | exact Nat.zero_lt_two | exact Nat.one_lt_two) ?_
      refine g_X6_59 C dX6_setCloth_34 (by first | assumption | exact Nat.zero_lt_one | exact Nat.zero_lt_two | exact Nat.one_lt_two) ?_
      rw [a1]
      refine w_if_gt C dX6_setCloth_37 (by omega) (fun h37 => ?_) (fun h37 => ?_)
      · refine w_throw C tk_66_70 ts_68 dX6_setCloth_50 dX6_setCloth_53 dX6_setCloth_54 dX6_setCloth_56 dX6_setCloth_59 ⟨by decide, by decide, by decide, by decide⟩ (Nat.le_of_ble_eq_true rfl) (exR_of (i := 1) (E ⟨y1, y2⟩ (Or.inl (by omega))) rfl hR) (by decide) (by decide)
      · refine w_aload_n C dX6_setCloth_40 rfl ?_
        refine g_X6_12 C dX6_setCloth_41 (by first | assumption | exact Nat.zero_lt_one | exact Nat.zero_lt_two | exact Nat.one_lt_two) ?_
        refine g_X6_63 C dX6_setCloth_44 (by first | assumption | exact Nat.zero_lt_one | exact Nat.zero_lt_two | exact Nat.one_lt_two) ?_
        rw [h5]
        refine w_if_le C dX6_setCloth_47 (by omega) (fun h47 => ?_) (fun h47 => ?_)
        · refine w_aload_n C dX6_setCloth_60 rfl ?_
          refine g_X6_12 C dX6_setCloth_61 (by first | assumption | exact Nat.zero_lt_one | exact Nat.zero_lt_two | exact Nat.one_lt_two) ?_
          refine g_X6_71 C dX6_setCloth_64 (by first | assumption | exact Nat.zero_lt_one | exact Nat.zero_lt_two | exact Nat.one_lt_two) ?_
          rw [h1]
          refine w_istore C dX6_setCloth_67 (by decide) ?_
          refine w_aload_n C dX6_setCloth_69 rfl ?_
          refine g_X6_12 C dX6_setCloth_70 (by first | assumption | exact Nat.zero_lt_one | exact Nat.zero_lt_two | exact Nat.one_lt_two) ?_
          refine w_iload_n C dX6_setCloth_73 rfl ?_
          refine p_X6_71 C dX6_setCloth_74 (by first | assumption | exact Nat.zero_lt_one | exact Nat.zero_lt_two | exact Nat.one_lt_two) ?_
          refine w_aload_n C dX6_setCloth_77 rfl ?_
          refine g_X6_12 C dX6_setCloth_78 (by first | assumption | exact Nat.zero_lt_one | exact Nat.zero_lt_two | exact Nat.one_lt_two) ?_
          refine w_iload_n C dX6_setCloth_81 rfl ?_
          refine p_X6_74 C dX6_setCloth_82 (by first | assumption | exact Nat.zero_lt_one | exact Nat.zero_lt_two | exact Nat.one_lt_two) (by omega) ?_
          refine w_aload_n C dX6_setCloth_85 rfl ?_
          refine g_X6_12 C dX6_setCloth_86 (by first | assumption | exact Nat.zero_lt_one | exact Nat.zero_lt_two | exact Nat.one_lt_two) ?_
          refine w_iload_n C dX6_setCloth_89 rfl ?_
          refine p_X6_78 C dX6_setCloth_90 (by first | assumption | exact Nat.zero_lt_one | exact Nat.zero_lt_two | exact Nat.one_lt_two) ?_
          refine w_iload C dX6_setCloth_93 rfl ?_
          have hP0 : P = [] := List.eq_nil_of_length_eq_zero (by omega)
          subst hP0
          have hz := hI.2.2.2 (by omega)
          have E0 : oSetCloth a b c' S [] nx = (0, (wdS S : Int), up3 (up3 (up3 S 0 0 0 a.toNat) 1 0 0 b) 3 0 0 c'.toNat, [], nx) := by
            unfold oSetCloth
            rw [if_neg (fun q => q ⟨y1, y2⟩), if_neg (by rintro (q | q); exact absurd q (by decide); omega)]
          have hF : Fr ctK M_ (uI (uI (uI M_ 1 0 0 a) 1 0 1 b) 1 0 3 c') := ((Fr.rf.uI (by simp [ctK])).uI (by simp [ctK])).uI (by simp [ctK])
          refine w_iret C hr dX6_setCloth_95 rfl (okR_of E0 rfl (RepRoom.ct (by decide) hF (fun f i k hf => ?_) (fun q => absurd rfl q) ⟨⟨?_, ?_, ?_, ?_, ?_, h6⟩, fun r hr => ?_⟩ hR)) (by decide) (by decide)
          · simp only [up3]
            rw [if_neg (by omega), if_neg (by omega), if_neg (by omega)]
          · simp [uI_get, up3]
            omega
          · simp [uI_get, up3]
          · simp [uI_get, up3, h3]
          · simp [uI_get, up3]
            omega
          · simp [uI_get, up3, h5]
          · show M_.1 21 0 r = _
            rw [h7 r hr]
            refine congrArg (fun z : Nat => (z : Int)) (bitsN_cg fun v hv => ?_)
            rw [bad0 hz hwd.2 hr hv, bad0 (S := up3 (up3 (up3 S 0 0 0 a.toNat) 1 0 0 b) 3 0 0 c'.toNat) hz (by simp [up3]; omega) hr hv]
        · refine w_throw C tk_66_70 ts_68 dX6_setCloth_50 dX6_setCloth_53 dX6_setCloth_54 dX6_setCloth_56 dX6_setCloth_59 ⟨by decide, by decide, by decide, by decide⟩ (Nat.le_of_ble_eq_true rfl) (exR_of (i := 1) (E ⟨y1, y2⟩ (Or.inr (by omega))) rfl hR) (by decide) (by decide)
    · exact T20 _ (fun q => by rw [b2_t q.2] at h17; omega)
theorem c_X6_fold (hl : l.stackTraces = false) {S : Sg} {P : List Pc} {nx : Nat} (hI : Inv S P nx) (hR : RepRoom S P nx M) (b : Nat) (hb : b ≤ 1) : Con l b0 yX6_fold cX6_fold 3 (some .boolean) 9 1 6 [aO 0 0, aI b] ad (cnt ns nt) M (okR (oFold b S P nx)) (exR (oFold b S P nx) [eIS]) := by
  have hR' := hR
  obtain ⟨hCl, hSh, ⟨f, hM⟩, hSt, hRm, hTr⟩ := hR'
  have hP := hI.2.2.1
  have a1 := hM.1
  have hfd := hI.1.2.2.1
  have h3 := hCl.1.2.2.1
  refine Con.of hl pl_X6 (Nat.le_of_ble_eq_true rfl) ?_
  intro D cA p e s m args below meth c C hr
  refine w_aload_n C dX6_fold_0 rfl ?_
  refine g_X6_19 C dX6_fold_1 (by first | assumption | exact Nat.zero_lt_one | exact Nat.zero_lt_two | exact Nat.one_lt_two) ?_
  refine g_X6_59 C dX6_fold_4 (by first | assumption | exact Nat.zero_lt_one | exact Nat.zero_lt_two | exact Nat.one_lt_two) ?_
  rw [a1]
  refine w_if_le C dX6_fold_7 (by omega) (fun h7 => ?_) (fun h7 => ?_)
  · refine w_aload_n C dX6_fold_20 rfl ?_
    refine g_X6_12 C dX6_fold_21 (by first | assumption | exact Nat.zero_lt_one | exact Nat.zero_lt_two | exact Nat.one_lt_two) ?_
    refine g_X6_83 C dX6_fold_24 (by first | assumption | exact Nat.zero_lt_one | exact Nat.zero_lt_two | exact Nat.one_lt_two) ?_
    rw [h3]
    have hP0 : P = [] := List.eq_nil_of_length_eq_zero (by omega)
    subst hP0
    refine w_istore_n C dX6_fold_27 (by decide) ?_
    refine w_aload_n C dX6_fold_28 rfl ?_
    refine g_X6_12 C dX6_fold_29 (by first | assumption | exact Nat.zero_lt_one | exact Nat.zero_lt_two | exact Nat.one_lt_two) ?_
    refine w_iload_n C dX6_fold_32 rfl ?_
    refine w_callV C dX6_fold_33 (c_X0_foldOrOpen hl hI.1 hCl b hb) mX0_foldOrOpen vX0_foldOrOpen lk_X6_86 (by first | assumption | exact Nat.zero_lt_one | exact Nat.zero_lt_two | exact Nat.one_lt_two) rfl rfl rfl rfl ⟨by decide, by decide, by decide, by decide⟩ (Nat.le_of_ble_eq_true rfl) (fun _ _ h => h.elim) ⟨by decide, by decide⟩ (fun r_ M2 q33 => ?_)
    obtain ⟨k1, k2, rfl⟩ := q33
    refine w_iload_n C dX6_fold_36 rfl ?_
    refine w_iret C hr dX6_fold_37 (by first | exact narrow_z (b2_01 _) | exact narrow_z (by omega)) (okR_of (S' := up3 S 2 0 0 b) (by unfold oFold; rw [if_neg (by decide)]) rfl (RepRoom.ct (S := S) (by decide) k1 (fun f i k hf => by simp only [up3]; rw [if_neg (by omega)]) (fun q => absurd rfl q) k2 hR)) (by decide) (by decide)
  · refine w_throw C tk_66_70 ts_81 dX6_fold_10 dX6_fold_13 dX6_fold_14 dX6_fold_16 dX6_fold_19 ⟨by decide, by decide, by decide, by decide⟩ (Nat.le_of_ble_eq_true rfl) (exR_of (i := 0) (by unfold oFold; rw [if_pos (by omega)]) rfl hR) (by decide) (by decide)
theorem c_X6_clearFlaws (hl : l.stackTraces = false) {S : Sg} {P : List Pc} {nx : Nat} (hI : Inv S P nx) (hR : RepRoom S P nx M) : Con l b0 yX6_clearFlaws cX6_clearFlaws 2 (some .int) 5 0 0 [aO 0 0] ad (cnt ns nt) M (okR (oClearFlaws S P nx)) noX := by
  have hR' := hR
  obtain ⟨hCl, hSh, hM, hSt, hRm, hTr⟩ := hR'
  have h5 := hCl.1.2.2.2.2.1
  refine Con.of hl pl_X6 (Nat.le_of_ble_eq_true rfl) ?_
  intro D cA p e s m args below meth c C hr
  refine w_aload_n C dX6_clearFlaws_0 rfl ?_
  refine g_X6_12 C dX6_clearFlaws_1 (by first | assumption | exact Nat.zero_lt_one | exact Nat.zero_lt_two | exact Nat.one_lt_two) ?_
  refine g_X6_63 C dX6_clearFlaws_4 (by first | assumption | exact Nat.zero_lt_one | exact Nat.zero_lt_two | exact Nat.one_lt_two) ?_
  rw [h5]
  refine w_istore_n C dX6_clearFlaws_7 (by decide) ?_
  refine w_aload_n C dX6_clearFlaws_8 rfl ?_
  refine g_X6_12 C dX6_clearFlaws_9 (by first | assumption | exact Nat.zero_lt_one | exact Nat.zero_lt_two | exact Nat.one_lt_two) ?_
  refine w_callV C dX6_clearFlaws_12 (c_X0_forgetFlaws hl hI.1 hCl) mX0_forgetFlaws vX0_forgetFlaws lk_X6_118 (by first | assumption | exact Nat.zero_lt_one | exact Nat.zero_lt_two | exact Nat.one_lt_two) rfl rfl rfl rfl ⟨by decide, by decide, by decide, by decide⟩ (Nat.le_of_ble_eq_true rfl) (fun _ _ h => h.elim) ⟨by decide, by decide⟩ (fun r_ M2 q12 => ?_)
  obtain ⟨k1, k2, rfl⟩ := q12
  refine w_iload_n C dX6_clearFlaws_15 rfl ?_
  refine w_iret C hr dX6_clearFlaws_16 rfl (okR_of (S' := noFl S) rfl rfl (RepRoom.ct (S := S) hI.2.2.1 k1 (fun f i k hf => by unfold noFl; rw [if_neg (by omega)]) (fun q => rfl) k2 hR)) (by decide) (by decide)
theorem c_X6_isUnderPiece (hl : l.stackTraces = false) {S : Sg} {P : List Pc} {nx : Nat} (hI : Inv S P nx) (hR : RepRoom S P nx M) (hnx : nx < 1000000) (u v : Nat) (hu : u < 60) (hv : v < wdS S) : Con l b0 yX6_isUnderPiece cX6_isUnderPiece 3 (some .boolean) 2 0 0 [aO 0 0, aI u, aI v] ad (cnt ns nt) M (fun r9 M' => M' = M ∧ r9 = some (aI (b2 (underS S P u v)))) noX := by
  obtain ⟨hCl, hSh, ⟨f, hM⟩, hSt, hRm, hTr⟩ := hR
  have h3 := hCl.1.2.2.1
  have hfd := hI.1.2.2.1
  have hwd := hI.1.1
  have hnb : ∀ k, -1 ≤ clo S P k ∧ clo S P k ≤ 1000000000 := fun k => by
    have c1 := clo_ge S P k
    have c2 := clo_lt (S := S) (fun p hp => (hI.2.1.1 p hp).2.2.2.2.2.1) k
    omega
  refine Con.of hl pl_X6 (Nat.le_of_ble_eq_true rfl) ?_
  intro D cA p e s m args below meth c C hr
  refine w_aload_n C dX6_isUnderPiece_0 rfl ?_
  refine g_X6_19 C dX6_isUnderPiece_1 (by first | assumption | exact Nat.zero_lt_one | exact Nat.zero_lt_two | exact Nat.one_lt_two) ?_
  refine w_iload_n C dX6_isUnderPiece_4 rfl ?_
  refine w_iload_n C dX6_isUnderPiece_5 rfl ?_
  refine w_callV C dX6_isUnderPiece_6 (c_X1_ownerOf hl (show inD (cnt ns nt) 2 0 from Nat.zero_lt_two) (g := clo S P) hM.2.2.2.1 u v hu (by omega)) mX1_ownerOf vX1_ownerOf lk_X6_110 (by first | assumption | exact Nat.zero_lt_one | exact Nat.zero_lt_two | exact Nat.one_lt_two) rfl rfl rfl rfl ⟨by decide, by decide, by decide, by decide⟩ (Nat.le_of_ble_eq_true rfl) (fun _ _ h => h.elim) ⟨by decide, by decide⟩ (fun r_ M_ q6 => ?_)
  obtain ⟨rfl, rfl⟩ := q6
  have n1 := hnb (12 * u + v)
  refine w_iconst C dX6_isUnderPiece_9 ?_
  refine w_icmp_ne C dX6_isUnderPiece_10 (by omega) (by omega) (fun h10 => ?_) (fun h10 => ?_)
  · refine w_iconst C dX6_isUnderPiece_43 ?_
    refine w_goto C dX6_isUnderPiece_44 ?_
    refine w_iret C hr dX6_isUnderPiece_48 (by first | exact narrow_z (b2_01 _) | exact narrow_z (by omega)) (⟨rfl, by rw [b2_t (Or.inl h10)]⟩) (by decide) (by decide)
  · have g1 := Decidable.not_not.mp h10
    refine w_aload_n C dX6_isUnderPiece_13 rfl ?_
    refine g_X6_12 C dX6_isUnderPiece_14 (by first | assumption | exact Nat.zero_lt_one | exact Nat.zero_lt_two | exact Nat.one_lt_two) ?_
    refine g_X6_83 C dX6_isUnderPiece_17 (by first | assumption | exact Nat.zero_lt_one | exact Nat.zero_lt_two | exact Nat.one_lt_two) ?_
    rw [h3]
    refine w_if_eq C dX6_isUnderPiece_20 (by omega) (fun h20 => ?_) (fun h20 => ?_)
    · refine w_iconst C dX6_isUnderPiece_47 ?_
      refine w_iret C hr dX6_isUnderPiece_48 (by first | exact narrow_z (b2_01 _) | exact narrow_z (by omega)) (⟨rfl, by rw [b2_f (by rintro (q | q); exact q g1; exact absurd q.1 (by omega))]⟩) (by decide) (by decide)
    · refine w_aload_n C dX6_isUnderPiece_23 rfl ?_
      refine g_X6_19 C dX6_isUnderPiece_24 (by first | assumption | exact Nat.zero_lt_one | exact Nat.zero_lt_two | exact Nat.one_lt_two) ?_
      refine w_iload_n C dX6_isUnderPiece_27 rfl ?_
      refine w_aload_n C dX6_isUnderPiece_28 rfl ?_
      refine g_X6_12 C dX6_isUnderPiece_29 (by first | assumption | exact Nat.zero_lt_one | exact Nat.zero_lt_two | exact Nat.one_lt_two) ?_
      refine w_iload_n C dX6_isUnderPiece_32 rfl ?_
      refine w_callV C dX6_isUnderPiece_33 (c_X0_opposite hl hCl.1 (v : Int)) mX0_opposite vX0_opposite lk_X6_114 (by first | assumption | exact Nat.zero_lt_one | exact Nat.zero_lt_two | exact Nat.one_lt_two) rfl rfl rfl rfl ⟨by decide, by decide, by decide, by decide⟩ (Nat.le_of_ble_eq_true rfl) (fun _ _ h => h.elim) ⟨by decide, by decide⟩ (fun r_ M_ q33 => ?_)
      obtain ⟨rfl, rfl⟩ := q33
      rw [show (wdS S : Int) - 1 - v = ((wdS S - 1 - v : Nat) : Int) by omega]
      have n2 := hnb (12 * u + (wdS S - 1 - v))
      refine w_callV C dX6_isUnderPiece_36 (c_X1_ownerOf hl (show inD (cnt ns nt) 2 0 from Nat.zero_lt_two) (g := clo S P) hM.2.2.2.1 u (wdS S - 1 - v) hu (by omega)) mX1_ownerOf vX1_ownerOf lk_X6_110 (by first | assumption | exact Nat.zero_lt_one | exact Nat.zero_lt_two | exact Nat.one_lt_two) rfl rfl rfl rfl ⟨by decide, by decide, by decide, by decide⟩ (Nat.le_of_ble_eq_true rfl) (fun _ _ h => h.elim) ⟨by decide, by decide⟩ (fun r_ M_ q36 => ?_)
      obtain ⟨rfl, rfl⟩ := q36
      refine w_iconst C dX6_isUnderPiece_39 ?_
      refine w_icmp_eq C dX6_isUnderPiece_40 (by omega) (by omega) (fun h40 => ?_) (fun h40 => ?_)
      · refine w_iconst C dX6_isUnderPiece_47 ?_
        refine w_iret C hr dX6_isUnderPiece_48 (by first | exact narrow_z (b2_01 _) | exact narrow_z (by omega)) (⟨rfl, by rw [b2_f (by rintro (q | q); exact q g1; exact q.2 h40)]⟩) (by decide) (by decide)
      · refine w_iconst C dX6_isUnderPiece_43 ?_
        refine w_goto C dX6_isUnderPiece_44 ?_
        refine w_iret C hr dX6_isUnderPiece_48 (by first | exact narrow_z (b2_01 _) | exact narrow_z (by omega)) (⟨rfl, by rw [b2_t (Or.inr ⟨by omega, h40⟩)]⟩) (by decide) (by decide)
theorem c_X6_addFlaw (hl : l.stackTraces = false) {S : Sg} {P : List Pc} {nx : Nat} (hI : Inv S P nx) (hR : RepRoom S P nx M) (hnx : nx < 1000000) (a b : Int) (ha : -2147483648 ≤ a ∧ a ≤ 2147483647) (hb : -2147483648 ≤ b ∧ b ≤ 2147483647) : Con l b0 yX6_addFlaw cX6_addFlaw 3 (some .int) 9 1 6 [aO 0 0, aI a, aI b] ad (cnt ns nt) M (okR (oAddFlaw a b S P nx)) (exR (oAddFlaw a b S P nx) [eIA, eUO, eIS]) := by
  have hR' := hR
  obtain ⟨hCl, hSh, ⟨f, hM⟩, hSt, hRm, hTr⟩ := hR'
  have hCl' := hCl
  obtain ⟨⟨h1, h2, h3, h4, h5, h6⟩, h7⟩ := hCl'
  have hwd := hI.1.1
  have hnf := hI.1.2.2.2.2.1
  have b1 := b2_01 (0 ≤ a ∧ a ≤ 59)
  have b2' := b2_01 (0 ≤ b ∧ b ≤ (wdS S : Int) - 1)
  refine Con.of hl pl_X6 (Nat.le_of_ble_eq_true rfl) ?_
  intro D cA p e s m args below meth c C hr
  have T27 : ∀ lv, ¬ ((0 ≤ a ∧ a ≤ 59) ∧ 0 ≤ b ∧ b ≤ (wdS S : Int) - 1) → Wm p l e (rmd 9 1 6) s m args below meth c 3 D cA b0 0 0 (vx_MQ below (mQ D cA b0 ad (cnt ns nt) (okR (oAddFlaw a b S P nx))) (mX D cA b0 ad (cnt ns nt) (exR (oAddFlaw a b S P nx) [eIA, eUO, eIS])) args s 1 6 b0) 27 lv [] ad (cnt ns nt) M := by
    intro lv hno
    refine w_throw C tk_52_56 ts_90 dX6_addFlaw_27 dX6_addFlaw_30 dX6_addFlaw_31 dX6_addFlaw_33 dX6_addFlaw_36 ⟨by decide, by decide, by decide, by decide⟩ (Nat.le_of_ble_eq_true rfl) (exR_of (i := 0) (by unfold oAddFlaw; rw [if_pos hno]) rfl hR) (by decide) (by decide)
  refine w_iload_n C dX6_addFlaw_0 rfl ?_
  refine w_iconst C dX6_addFlaw_1 ?_
  refine w_bipush (v := 59) C dX6_addFlaw_2 rfl ?_
  refine w_callS C dX6_addFlaw_4 (c_X6_isWithin hl a 0 59 (by omega) (by omega) (by omega)) mX6_isWithin sX6_isWithin lk_X6_48 rfl rfl ⟨by decide, by decide, by decide, by decide⟩ (Nat.le_of_ble_eq_true rfl) (fun _ _ h => h.elim) ⟨by decide, by decide⟩ (fun r_ M_ q4 => ?_)
  obtain ⟨rfl, rfl⟩ := q4
  refine w_if_eq C dX6_addFlaw_7 (by omega) (fun h7 => ?_) (fun h7 => ?_)
  · exact T27 _ (fun q => by rw [b2_t q.1] at h7; omega)
  · have y1 : 0 ≤ a ∧ a ≤ 59 := Decidable.byContradiction fun q => h7 (b2_f q)
    refine w_iload_n C dX6_addFlaw_10 rfl ?_
    refine w_iconst C dX6_addFlaw_11 ?_
    refine w_aload_n C dX6_addFlaw_12 rfl ?_
    refine g_X6_12 C dX6_addFlaw_13 (by first | assumption | exact Nat.zero_lt_one | exact Nat.zero_lt_two | exact Nat.one_lt_two) ?_
    refine g_X6_71 C dX6_addFlaw_16 (by first | assumption | exact Nat.zero_lt_one | exact Nat.zero_lt_two | exact Nat.one_lt_two) ?_
    rw [h1]
    refine w_iconst C dX6_addFlaw_19 ?_
    refine w_isub C dX6_addFlaw_20 ?_
    refine w_callS C dX6_addFlaw_21 (c_X6_isWithin hl b 0 ((wdS S : Int) - 1) (by omega) (by omega) (by omega)) mX6_isWithin sX6_isWithin lk_X6_48 rfl rfl ⟨by decide, by decide, by decide, by decide⟩ (Nat.le_of_ble_eq_true rfl) (fun _ _ h => h.elim) ⟨by decide, by decide⟩ (fun r_ M_ q21 => ?_)
    obtain ⟨rfl, rfl⟩ := q21
    refine w_if_ne C dX6_addFlaw_24 (by omega) (fun h24 => ?_) (fun h24 => ?_)
    · have y2 : 0 ≤ b ∧ b ≤ (wdS S : Int) - 1 := Decidable.byContradiction fun q => h24 (b2_f q)
      obtain ⟨u, rfl⟩ := Int.eq_ofNat_of_zero_le y1.1
      obtain ⟨v, rfl⟩ := Int.eq_ofNat_of_zero_le y2.1
      have y0 := And.intro y1 y2
      have hu : u < 60 := by omega
      have hv : v < wdS S := by omega
      have b3 := b2_01 (underS S P u v)
      refine w_aload_n C dX6_addFlaw_37 rfl ?_
      refine w_iload_n C dX6_addFlaw_38 rfl ?_
      refine w_iload_n C dX6_addFlaw_39 rfl ?_
      refine w_callV C dX6_addFlaw_40 (c_X6_isUnderPiece hl hI hR hnx u v hu hv) mX6_isUnderPiece vX6_isUnderPiece lk_X6_92 (by first | assumption | exact Nat.zero_lt_one | exact Nat.zero_lt_two | exact Nat.one_lt_two) rfl rfl rfl rfl ⟨by decide, by decide, by decide, by decide⟩ (Nat.le_of_ble_eq_true rfl) (fun _ _ h => h.elim) ⟨by decide, by decide⟩ (fun r_ M_ q40 => ?_)
      obtain ⟨rfl, rfl⟩ := q40
      refine w_if_eq C dX6_addFlaw_43 (by omega) (fun h43 => ?_) (fun h43 => ?_)
      · have y3 : ¬ underS S P u v := fun q => by
          rw [b2_t q] at h43
          omega
        have b4 := b2_01 (flS S (12 * u + v) ≠ 0)
        refine w_aload_n C dX6_addFlaw_56 rfl ?_
        refine g_X6_12 C dX6_addFlaw_57 (by first | assumption | exact Nat.zero_lt_one | exact Nat.zero_lt_two | exact Nat.one_lt_two) ?_
        refine w_iload_n C dX6_addFlaw_60 rfl ?_
        refine w_iload_n C dX6_addFlaw_61 rfl ?_
        refine w_callV C dX6_addFlaw_62 (c_X0_isTold hl hCl.1 u v hu (by omega)) mX0_isTold vX0_isTold lk_X6_101 (by first | assumption | exact Nat.zero_lt_one | exact Nat.zero_lt_two | exact Nat.one_lt_two) rfl rfl rfl rfl ⟨by decide, by decide, by decide, by decide⟩ (Nat.le_of_ble_eq_true rfl) (fun _ _ h => h.elim) ⟨by decide, by decide⟩ (fun r_ M_ q62 => ?_)
        obtain ⟨rfl, rfl⟩ := q62
        have Eq3 : oAddFlaw u v S P nx = if flS S (12 * u + v) ≠ 0 then (0, (nfS S : Int), S, P, nx) else if 12 ≤ nfS S then (3, 0, S, P, nx) else (0, (nfS S : Int) + 1, up3 (up3 S 5 0 (12 * u + v) 1) 4 0 0 (nfS S + 1), P, nx) := by
          unfold oAddFlaw
          rw [if_neg (fun q => q y0), Int.toNat_natCast, Int.toNat_natCast, if_neg y3]
        refine w_if_ne C dX6_addFlaw_65 (by omega) (fun h65 => ?_) (fun h65 => ?_)
        · have y4 : flS S (12 * u + v) ≠ 0 := Decidable.byContradiction fun q => h65 (b2_f q)
          refine w_aload_n C dX6_addFlaw_99 rfl ?_
          refine g_X6_12 C dX6_addFlaw_100 (by first | assumption | exact Nat.zero_lt_one | exact Nat.zero_lt_two | exact Nat.one_lt_two) ?_
          refine g_X6_63 C dX6_addFlaw_103 (by first | assumption | exact Nat.zero_lt_one | exact Nat.zero_lt_two | exact Nat.one_lt_two) ?_
          rw [h5]
          refine w_iret C hr dX6_addFlaw_106 rfl (okR_of (by rw [Eq3, if_pos y4]) rfl hR) (by decide) (by decide)
        · have y4 : ¬ flS S (12 * u + v) ≠ 0 := fun q => by
            rw [b2_t q] at h65
            omega
          refine w_aload_n C dX6_addFlaw_68 rfl ?_
          refine g_X6_12 C dX6_addFlaw_69 (by first | assumption | exact Nat.zero_lt_one | exact Nat.zero_lt_two | exact Nat.one_lt_two) ?_
          refine g_X6_63 C dX6_addFlaw_72 (by first | assumption | exact Nat.zero_lt_one | exact Nat.zero_lt_two | exact Nat.one_lt_two) ?_
          refine w_bipush (v := 12) C dX6_addFlaw_75 rfl ?_
          rw [h5]
          refine w_icmp_lt C dX6_addFlaw_77 (by omega) (by omega) (fun h77 => ?_) (fun h77 => ?_)
          · refine w_aload_n C dX6_addFlaw_90 rfl ?_
            refine g_X6_12 C dX6_addFlaw_91 (by first | assumption | exact Nat.zero_lt_one | exact Nat.zero_lt_two | exact Nat.one_lt_two) ?_
            refine w_iload_n C dX6_addFlaw_94 rfl ?_
            refine w_iload_n C dX6_addFlaw_95 rfl ?_
            refine w_callV C dX6_addFlaw_96 (c_X0_tell hl hI.1 hCl u v hu hv (Decidable.not_not.mp y4) (by omega)) mX0_tell vX0_tell lk_X6_106 (by first | assumption | exact Nat.zero_lt_one | exact Nat.zero_lt_two | exact Nat.one_lt_two) rfl rfl rfl rfl ⟨by decide, by decide, by decide, by decide⟩ (Nat.le_of_ble_eq_true rfl) (fun _ _ h => h.elim) ⟨by decide, by decide⟩ (fun r_ M2 q96 => ?_)
            obtain ⟨k1, k2, rfl⟩ := q96
            refine w_aload_n C dX6_addFlaw_99 rfl ?_
            refine g_X6_12 C dX6_addFlaw_100 (by first | assumption | exact Nat.zero_lt_one | exact Nat.zero_lt_two | exact Nat.one_lt_two) ?_
            refine g_X6_63 C dX6_addFlaw_103 (by first | assumption | exact Nat.zero_lt_one | exact Nat.zero_lt_two | exact Nat.one_lt_two) ?_
            rw [k2.1.2.2.2.2.1]
            refine w_iret C hr dX6_addFlaw_106 rfl (okR_of (nx' := nx) (P' := P) (S' := up3 (up3 S 5 0 (12 * u + v) 1) 4 0 0 (nfS S + 1)) (by rw [Eq3, if_neg y4, if_neg (by omega)]; rfl) rfl (RepRoom.ct (S := S) hI.2.2.1 k1 (fun f i k hf => by simp only [up3]; rw [if_neg (by omega), if_neg (by omega)]) (fun q => rfl) k2 hR)) (by decide) (by decide)
          · refine w_throw C tk_66_70 ts_104 dX6_addFlaw_80 dX6_addFlaw_83 dX6_addFlaw_84 dX6_addFlaw_86 dX6_addFlaw_89 ⟨by decide, by decide, by decide, by decide⟩ (Nat.le_of_ble_eq_true rfl) (exR_of (i := 2) (by rw [Eq3, if_neg y4, if_pos (by omega)]) rfl hR) (by decide) (by decide)
      · have y3 : underS S P u v := Decidable.byContradiction fun q => h43 (b2_f q)
        refine w_throw C tk_96_100 ts_98 dX6_addFlaw_46 dX6_addFlaw_49 dX6_addFlaw_50 dX6_addFlaw_52 dX6_addFlaw_55 ⟨by decide, by decide, by decide, by decide⟩ (Nat.le_of_ble_eq_true rfl) (exR_of (i := 1) (by unfold oAddFlaw; rw [if_neg (fun q => q y0), Int.toNat_natCast, Int.toNat_natCast, if_pos y3]) rfl hR) (by decide) (by decide)
    · exact T27 _ (fun q => by rw [b2_t q.2] at h24; omega)
end Rm
