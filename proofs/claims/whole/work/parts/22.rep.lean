/-! what the memory of the system says of the abstract state -/
def Fr (K : Nat → Nat → Prop) (M M' : Mem) : Prop := ∀ k i, ¬ K k i → M'.1 k i = M.1 k i ∧ M'.2.1 k i = M.2.1 k i ∧ M'.2.2.1 k i = M.2.2.1 k i ∧ M'.2.2.2 k i = M.2.2.2 k i
theorem Fr.rf {K : Nat → Nat → Prop} {M : Mem} : Fr K M M := fun _ _ _ => ⟨rfl, rfl, rfl, rfl⟩
theorem Fr.tr {K : Nat → Nat → Prop} {M M' M'' : Mem} (h1 : Fr K M M') (h2 : Fr K M' M'') : Fr K M M'' := fun k i hk => by
  obtain ⟨a1, a2, a3, a4⟩ := h1 k i hk
  obtain ⟨b1, b2, b3, b4⟩ := h2 k i hk
  exact ⟨b1.trans a1, b2.trans a2, b3.trans a3, b4.trans a4⟩
theorem Fr.mono {K L : Nat → Nat → Prop} {M M' : Mem} (h : Fr K M M') (hKL : ∀ k i, K k i → L k i) : Fr L M M' := fun k i hk => h k i (fun q => hk (hKL k i q))
theorem Fr.uI {K : Nat → Nat → Prop} {M M' : Mem} {k i s : Nat} {v : Int} (h : Fr K M M') (hk : K k i) : Fr K M (uI M' k i s v) := fun k' i' hk' => by
  have e9 : ¬ (k' = k ∧ i' = i) := fun q => hk' (by rw [q.1, q.2]; exact hk)
  obtain ⟨a1, a2, a3, a4⟩ := h k' i' hk'
  exact ⟨(up3_off M'.1 s v e9).trans a1, a2, a3, a4⟩
theorem Fr.uR {K : Nat → Nat → Prop} {M M' : Mem} {k i s : Nat} {v : Option Nat} (h : Fr K M M') (hk : K k i) : Fr K M (uR M' k i s v) := fun k' i' hk' => by
  have e9 : ¬ (k' = k ∧ i' = i) := fun q => hk' (by rw [q.1, q.2]; exact hk)
  obtain ⟨a1, a2, a3, a4⟩ := h k' i' hk'
  exact ⟨a1, (up3_off M'.2.1 s v e9).trans a2, a3, a4⟩
theorem Fr.uL {K : Nat → Nat → Prop} {M M' : Mem} {k i s : Nat} {v : Int} (h : Fr K M M') (hk : K k i) : Fr K M (uL M' k i s v) := fun k' i' hk' => by
  have e9 : ¬ (k' = k ∧ i' = i) := fun q => hk' (by rw [q.1, q.2]; exact hk)
  obtain ⟨a1, a2, a3, a4⟩ := h k' i' hk'
  exact ⟨a1, a2, (up3_off M'.2.2.1 s v e9).trans a3, a4⟩
theorem uI_get (M : Mem) (k i s : Nat) (v : Int) (k' i' s' : Nat) : (uI M k i s v).1 k' i' s' = if k' = k ∧ i' = i ∧ s' = s then v else M.1 k' i' s' := rfl
theorem uR_get (M : Mem) (k i s : Nat) (v : Option Nat) (k' i' s' : Nat) : (uR M k i s v).2.1 k' i' s' = if k' = k ∧ i' = i ∧ s' = s then v else M.2.1 k' i' s' := rfl
theorem uL_get (M : Mem) (k i s : Nat) (v : Int) (k' i' s' : Nat) : (uL M k i s v).2.2.1 k' i' s' = if k' = k ∧ i' = i ∧ s' = s then v else M.2.2.1 k' i' s' := rfl
theorem uI_r (M : Mem) (k i s : Nat) (v : Int) : (uI M k i s v).2 = M.2 := rfl
theorem uR_i (M : Mem) (k i s : Nat) (v : Option Nat) : (uR M k i s v).1 = M.1 := rfl
theorem uR_l (M : Mem) (k i s : Nat) (v : Option Nat) : (uR M k i s v).2.2 = M.2.2 := rfl
theorem uL_i (M : Mem) (k i s : Nat) (v : Int) : (uL M k i s v).1 = M.1 := rfl
theorem uL_r (M : Mem) (k i s : Nat) (v : Int) : (uL M k i s v).2.1 = M.2.1 := rfl
/-- the numbers' ranges -/
def GInv (S : Sg) : Prop :=
  (2 ≤ wdS S ∧ wdS S ≤ 12) ∧ npS S ≤ 1 ∧ fdS S ≤ 1 ∧ srS S ≤ 6 ∧ nfS S ≤ 12 ∧ nsS S ≤ 8 ∧ ntS S ≤ 4 ∧
  (∀ r c, r < 60 → c < 12 → flS S (12 * r + c) ≠ 0 → c < wdS S) ∧ (∀ k, k < 720 → flS S k ≤ 1) ∧
  (∀ j, paS S j ≤ 1 ∧ gpS S j ≤ 4 ∧ mrS S j ≤ 4 ∧ mcS S j ≤ 4 ∧ szS S j ≤ 25 ∧ ruS S j ≤ 127 ∧ stS S j 0 ≤ 9999 ∧ stS S j 1 ≤ 9999 ∧ ∀ k, drS S j k ≤ 1) ∧
  (∀ y j, ctS S y j ≤ 4) ∧ rlS S ≤ 999999
def RepCt (S : Sg) (M : Mem) : Prop := M.1 1 0 0 = wdS S ∧ M.1 1 0 1 = npS S ∧ M.1 1 0 2 = fdS S ∧ M.1 1 0 3 = srS S ∧ M.1 1 0 4 = nfS S ∧ ∀ r, r < 60 → M.1 20 0 r = (bitsN (fun c => decide (flS S (12 * r + c) ≠ 0)) 12 : Nat)
def RepCl (S : Sg) (M : Mem) : Prop := RepCt S M ∧ ∀ r, r < 60 → M.1 21 0 r = (bitsN (badS S r) 12 : Nat)
def RepOu (S : Sg) (j o : Nat) (M : Mem) : Prop := M.1 5 (8 * j + o) 0 = (o % 4 : Nat) ∧ M.1 5 (8 * j + o) 1 = (o / 4 : Nat) ∧
  (0 < szS S j → (∀ r, r < 5 → M.1 31 (8 * j + o) r = (bitsN (nc (dB S j) (o % 4) (o / 4) r) 5 : Nat)) ∧ M.1 5 (8 * j + o) 3 = hgt (dB S j) (o % 4) (o / 4) ∧ M.1 5 (8 * j + o) 4 = wid (dB S j) (o % 4) (o / 4) ∧ M.1 5 (8 * j + o) 5 = mkR S j (o % 4) (o / 4))
def RepS1 (S : Sg) (j : Nat) (M : Mem) : Prop := M.1 4 j 0 = ruS S j ∧ M.1 4 j 1 = paS S j ∧ M.1 4 j 4 = szS S j ∧ M.1 4 j 5 = (gpS S j : Int) - 1 ∧ M.1 4 j 6 = mrS S j ∧ M.1 4 j 7 = mcS S j ∧ (∀ r, r < 5 → M.1 30 j r = (bitsN (fun c => dB S j (5 * r + c)) 5 : Nat)) ∧
  (0 < szS S j ↔ ∃ k, k < 25 ∧ dB S j k = true)
def RepS2 (S : Sg) (j : Nat) (M : Mem) : Prop := M.1 4 j 8 = stS S j 0 ∧ M.1 4 j 9 = stS S j 1 ∧ M.2.2.1 4 j 10 = eS S j
def RepSh (S : Sg) (M : Mem) : Prop := ∀ j, j < nsS S → RepS1 S j M ∧ RepS2 S j M ∧ ∀ o, o < 8 → M.2.1 13 j o = some (8 * j + o) ∧ RepOu S j o M
def RepPc (p : Pc) (id : Nat) (M : Mem) : Prop := M.1 3 id 0 = pNum p ∧ M.2.1 3 id 1 = some (pShp p) ∧ M.2.1 3 id 2 = some (8 * pShp p + (pTrn p + 4 * pMir p)) ∧ M.1 3 id 3 = pTrn p ∧ M.1 3 id 4 = pRow p ∧ M.1 3 id 5 = pCol p ∧ M.1 3 id 6 = pMir p
def RepMF (f : Nat → Nat) (mi : Nat) (S : Sg) (P : List Pc) (nx : Nat) (M : Mem) : Prop :=
  M.1 2 mi 1 = P.length ∧ M.1 2 mi 2 = nx ∧
  ((∀ i, i < 40 → f i < 40 ∧ M.2.1 12 mi i = some (40 * mi + f i)) ∧ (∀ i j, i < 40 → j < 40 → f i = f j → i = j) ∧ ∀ i p, P[i]? = some p → RepPc p (40 * mi + f i) M) ∧
  (∀ k, k < 720 → M.1 22 mi k = clo S P k) ∧ (∀ r, r < 60 → M.1 23 mi r = (bitsN (fun c => decide (clo S P (12 * r + c) ≠ -1)) 12 : Nat)) ∧
  (∀ g, g < 4 → M.1 24 mi g = inGr S P (g + 1)) ∧ ∀ p, p ∈ P → gpS S (pShp p) ≠ 0 → M.1 25 mi (gpS S (pShp p) - 1) = remP S p
def RepMk (mi : Nat) (S : Sg) (P : List Pc) (nx : Nat) (M : Mem) : Prop := ∃ f, RepMF f mi S P nx M
def RepSt (S : Sg) (M : Mem) : Prop := ∀ y, y < ntS S → (∀ j, j < 8 → M.1 32 y j = ctS S y j) ∧ M.1 6 y 1 = mdS S y
def RepRm (S : Sg) (M : Mem) : Prop := M.1 0 0 3 = nsS S ∧ M.1 0 0 5 = ntS S ∧ M.1 0 0 6 = rlS S ∧ (∀ j, j < 8 → M.2.1 10 0 j = if j < nsS S then some j else none) ∧ ∀ y, y < 4 → M.2.1 11 0 y = if y < ntS S then some y else none
theorem RepCt.fr {S : Sg} {K : Nat → Nat → Prop} {M M' : Mem} (hF : Fr K M M') (h1 : ¬ K 1 0) (h20 : ¬ K 20 0) (h : RepCt S M) : RepCt S M' := by
  obtain ⟨a1, a2, a3, a4, a5, a6⟩ := h
  have f1 := (hF 1 0 h1).1
  have f2 := (hF 20 0 h20).1
  exact ⟨by rw [f1]; exact a1, by rw [f1]; exact a2, by rw [f1]; exact a3, by rw [f1]; exact a4, by rw [f1]; exact a5, fun r hr => by rw [f2]; exact a6 r hr⟩
theorem RepCl.fr {S : Sg} {K : Nat → Nat → Prop} {M M' : Mem} (hF : Fr K M M') (h1 : ¬ K 1 0) (h20 : ¬ K 20 0) (h21 : ¬ K 21 0) (h : RepCl S M) : RepCl S M' :=
  ⟨h.1.fr hF h1 h20, fun r hr => by rw [(hF 21 0 h21).1]; exact h.2 r hr⟩
theorem RepOu.fr {S : Sg} {j o : Nat} {K : Nat → Nat → Prop} {M M' : Mem} (hF : Fr K M M') (h5 : ¬ K 5 (8 * j + o)) (h31 : ¬ K 31 (8 * j + o)) (h : RepOu S j o M) : RepOu S j o M' := by
  obtain ⟨a1, a2, a3⟩ := h
  have f1 := (hF _ _ h5).1
  have f2 := (hF _ _ h31).1
  refine ⟨by rw [f1]; exact a1, by rw [f1]; exact a2, fun hz => ?_⟩
  obtain ⟨b1, b2, b3, b4⟩ := a3 hz
  exact ⟨fun r hr => by rw [f2]; exact b1 r hr, by rw [f1]; exact b2, by rw [f1]; exact b3, by rw [f1]; exact b4⟩
theorem RepS1.fr {S : Sg} {j : Nat} {K : Nat → Nat → Prop} {M M' : Mem} (hF : Fr K M M') (h4 : ¬ K 4 j) (h30 : ¬ K 30 j) (h : RepS1 S j M) : RepS1 S j M' := by
  obtain ⟨a1, a2, a3, a4, a5, a6, a7, a8⟩ := h
  have f1 := (hF _ _ h4).1
  have f2 := (hF _ _ h30).1
  exact ⟨by rw [f1]; exact a1, by rw [f1]; exact a2, by rw [f1]; exact a3, by rw [f1]; exact a4, by rw [f1]; exact a5, by rw [f1]; exact a6, fun r hr => by rw [f2]; exact a7 r hr, a8⟩
theorem RepS2.fr {S : Sg} {j : Nat} {K : Nat → Nat → Prop} {M M' : Mem} (hF : Fr K M M') (h4 : ¬ K 4 j) (h : RepS2 S j M) : RepS2 S j M' := by
  obtain ⟨a1, a2, a3⟩ := h
  obtain ⟨f1, -, f3, -⟩ := hF _ _ h4
  exact ⟨by rw [f1]; exact a1, by rw [f1]; exact a2, by rw [f3]; exact a3⟩
theorem RepSh.fr {S : Sg} {K : Nat → Nat → Prop} {M M' : Mem} (hF : Fr K M M') (hk : ∀ i, ¬ K 4 i ∧ ¬ K 5 i ∧ ¬ K 13 i ∧ ¬ K 30 i ∧ ¬ K 31 i) (h : RepSh S M) : RepSh S M' := by
  intro j hj
  obtain ⟨a1, a2, a3⟩ := h j hj
  refine ⟨a1.fr hF (hk j).1 (hk j).2.2.2.1, a2.fr hF (hk j).1, fun o ho => ?_⟩
  obtain ⟨b1, b2⟩ := a3 o ho
  exact ⟨by rw [(hF 13 j (hk j).2.2.1).2.1]; exact b1, b2.fr hF (hk _).2.1 (hk _).2.2.2.2⟩
theorem RepPc.fr {p : Pc} {id : Nat} {K : Nat → Nat → Prop} {M M' : Mem} (hF : Fr K M M') (h3 : ¬ K 3 id) (h : RepPc p id M) : RepPc p id M' := by
  obtain ⟨a1, a2, a3, a4, a5, a6, a7⟩ := h
  obtain ⟨f1, f2, -, -⟩ := hF _ _ h3
  exact ⟨by rw [f1]; exact a1, by rw [f2]; exact a2, by rw [f2]; exact a3, by rw [f1]; exact a4, by rw [f1]; exact a5, by rw [f1]; exact a6, by rw [f1]; exact a7⟩
theorem RepMF.fr {f : Nat → Nat} {mi : Nat} {S : Sg} {P : List Pc} {nx : Nat} {K : Nat → Nat → Prop} {M M' : Mem} (hP : P.length ≤ 40) (hF : Fr K M M') (hk : ¬ K 2 mi ∧ ¬ K 12 mi ∧ ¬ K 22 mi ∧ ¬ K 23 mi ∧ ¬ K 24 mi ∧ ¬ K 25 mi) (h3 : ∀ i, i < 40 → ¬ K 3 (40 * mi + i)) (h : RepMF f mi S P nx M) : RepMF f mi S P nx M' := by
  obtain ⟨a1, a2, ⟨b1, b2, b3⟩, a4, a5, a6, a7⟩ := h
  obtain ⟨k2, k12, k22, k23, k24, k25⟩ := hk
  refine ⟨by rw [(hF _ _ k2).1]; exact a1, by rw [(hF _ _ k2).1]; exact a2, ⟨fun i hi => ?_, b2, fun i p hp => ?_⟩, fun k h => by rw [(hF _ _ k22).1]; exact a4 k h, fun k h => by rw [(hF _ _ k23).1]; exact a5 k h, fun k h => by rw [(hF _ _ k24).1]; exact a6 k h, fun p hp hg => by rw [(hF _ _ k25).1]; exact a7 p hp hg⟩
  · rw [(hF _ _ k12).2.1]; exact b1 i hi
  · have hi : i < 40 := Nat.lt_of_lt_of_le (List.getElem?_eq_some_iff.mp hp).1 hP
    exact (b3 i p hp).fr hF (h3 _ (b1 i hi).1)
theorem RepMk.fr {mi : Nat} {S : Sg} {P : List Pc} {nx : Nat} {K : Nat → Nat → Prop} {M M' : Mem} (hP : P.length ≤ 40) (hF : Fr K M M') (hk : ¬ K 2 mi ∧ ¬ K 12 mi ∧ ¬ K 22 mi ∧ ¬ K 23 mi ∧ ¬ K 24 mi ∧ ¬ K 25 mi) (h3 : ∀ i, i < 40 → ¬ K 3 (40 * mi + i)) (h : RepMk mi S P nx M) : RepMk mi S P nx M' := by
  obtain ⟨f, h⟩ := h
  exact ⟨f, h.fr hP hF hk h3⟩
theorem RepSt.fr {S : Sg} {K : Nat → Nat → Prop} {M M' : Mem} (hF : Fr K M M') (hk : ∀ i, ¬ K 6 i ∧ ¬ K 32 i) (h : RepSt S M) : RepSt S M' := fun y hy =>
  ⟨fun j hj => by rw [(hF _ _ (hk y).2).1]; exact (h y hy).1 j hj, by rw [(hF _ _ (hk y).1).1]; exact (h y hy).2⟩
theorem RepRm.fr {S : Sg} {K : Nat → Nat → Prop} {M M' : Mem} (hF : Fr K M M') (h0 : ¬ K 0 0) (h10 : ¬ K 10 0) (h11 : ¬ K 11 0) (h : RepRm S M) : RepRm S M' := by
  obtain ⟨a1, a2, a3, a4, a5⟩ := h
  exact ⟨by rw [(hF _ _ h0).1]; exact a1, by rw [(hF _ _ h0).1]; exact a2, by rw [(hF _ _ h0).1]; exact a3, fun j hj => by rw [(hF _ _ h10).2.1]; exact a4 j hj, fun j hj => by rw [(hF _ _ h11).2.1]; exact a5 j hj⟩
