/-! the room: spread -/
/-- the stock of one shape has changed -/
theorem RepRoom.stk {S S' : Sg} {P : List Pc} {nx j : Nat} {M M' : Mem} {a b : Nat} (hP : P.length ≤ 40) (hM' : M' = uL (uI (uI M 4 j 8 (a : Int)) 4 j 9 (b : Int)) 4 j 10 (eS S' j : Nat)) (hag : ∀ f i k, ¬ (f = 14 ∧ i = j) → S' f i k = S f i k) (ha : stS S' j 0 = a) (hb : stS S' j 1 = b) (hR : RepRoom S P nx M) : RepRoom S' P nx M' := by
  obtain ⟨hC, hSh, hM, hSt, hRm, hTr⟩ := hR
  have hF : Fr (fun k i => k = 4 ∧ i = j) M M' := by
    rw [hM']
    exact Fr.uL (Fr.uI (Fr.uI Fr.rf ⟨rfl, rfl⟩) ⟨rfl, rfl⟩) ⟨rfl, rfl⟩
  have n0 : ∀ {k i : Nat}, k ≠ 4 → ¬ (k = 4 ∧ i = j) := fun h q => h q.1
  have e : S' = fun f i k => if f = 14 then S' f i k else S f i k := by
    funext f i k
    split
    · rfl
    · rename_i h
      exact hag f i k (fun q => h q.1)
  refine ⟨?_, fun i hi => ?_, ?_, ?_, ?_, TrOK.fr hF (n0 (by decide)) hTr⟩
  · have := RepCl.fr hF (n0 (by decide)) (n0 (by decide)) (n0 (by decide)) hC
    rw [e]
    exact this
  · have hi' : i < nsS S := by
      have := hag 6 0 0 (by simp)
      simp only [nsS] at hi ⊢
      omega
    obtain ⟨s1, s2, s3⟩ := hSh i hi'
    have s3' : ∀ o, o < 8 → M'.2.1 13 i o = some (8 * i + o) ∧ RepOu S' i o M' := fun o ho => by
      refine ⟨by rw [(hF 13 i (n0 (by decide))).2.1]; exact (s3 o ho).1, ?_⟩
      have := (s3 o ho).2.fr hF (n0 (by decide)) (n0 (by decide))
      rw [e]
      exact this
    by_cases hij : i = j
    · subst hij
      refine ⟨?_, ⟨?_, ?_, ?_⟩, s3'⟩
      · obtain ⟨a1, a2, a3, a4, a5, a6, a7, a8⟩ := s1
        have r8 : ∀ s, s ≠ 8 → s ≠ 9 → M'.1 4 i s = M.1 4 i s := fun s h1 h2 => by
          rw [hM', uL_i, uI_get, if_neg (fun q => h2 q.2.2), uI_get, if_neg (fun q => h1 q.2.2)]
        have : RepS1 S i M' := ⟨by rw [r8 _ (by decide) (by decide)]; exact a1, by rw [r8 _ (by decide) (by decide)]; exact a2, by rw [r8 _ (by decide) (by decide)]; exact a3, by rw [r8 _ (by decide) (by decide)]; exact a4, by rw [r8 _ (by decide) (by decide)]; exact a5, by rw [r8 _ (by decide) (by decide)]; exact a6, fun r hr => by rw [(hF 30 i (n0 (by decide))).1]; exact a7 r hr, a8⟩
        rw [e]
        exact this
      · rw [hM', uL_i, uI_get, if_neg (fun q => absurd q.2.2 (by decide)), uI_get, if_pos ⟨rfl, rfl, rfl⟩, ha]
      · rw [hM', uL_i, uI_get, if_pos ⟨rfl, rfl, rfl⟩, hb]
      · rw [hM', uL_get, if_pos ⟨rfl, rfl, rfl⟩]
    · have hn : ¬ (4 = 4 ∧ i = j) := fun q => hij q.2
      have t1 := s1.fr hF hn (n0 (by decide))
      obtain ⟨t2, t3, t4⟩ := s2.fr hF hn
      refine ⟨?_, ⟨?_, ?_, ?_⟩, s3'⟩
      · rw [e]
        exact t1
      · rw [t2]
        exact congrArg (fun z : Nat => (z : Int)) (hag 14 i 0 (fun q => hij q.2)).symm
      · rw [t3]
        exact congrArg (fun z : Nat => (z : Int)) (hag 14 i 1 (fun q => hij q.2)).symm
      · rw [t4]
        refine congrArg (fun z : Nat => (z : Int)) ?_
        have hg : garS S' i = garS S i := by
          rw [e]
          rfl
        unfold eS
        rw [hg, show stS S' i 0 = stS S i 0 from hag 14 i 0 (fun q => hij q.2), show stS S' i 1 = stS S i 1 from hag 14 i 1 (fun q => hij q.2)]
  · refine RepMk.cg (S := S) (fun p hp => ?_) (fun _ => hag 3 0 0 (by simp)) (RepMk.fr hP hF ⟨n0 (by decide), n0 (by decide), n0 (by decide), n0 (by decide), n0 (by decide), n0 (by decide)⟩ (fun _ _ => n0 (by decide)) hM)
    refine ⟨?_, hag 11 _ 0 (by simp), hag 12 _ 0 (by simp), hag 13 _ 0 (by simp)⟩
    funext k
    unfold dB
    rw [show drS S' (pShp p) k = drS S (pShp p) k from hag 9 _ k (by simp)]
  · have := RepSt.fr hF (fun i => ⟨n0 (by decide), n0 (by decide)⟩) hSt
    rw [e]
    exact this
  · have := RepRm.fr hF (n0 (by decide)) (n0 (by decide)) (n0 (by decide)) hRm
    rw [e]
    exact this
