/-! a call that sees only a part of the world -/
def adJ (sd : Nat → Bool) (ad' ad : Ads) : Ads := fun k i => if sd k = true then ad' k i else ad k i
def cnJ (sd : Nat → Bool) (cn' cn : Nat → Nat) : Nat → Nat := fun k => if sd k = true then cn' k else cn k
def mJ (sd : Nat → Bool) (M' M : Mem) : Mem := (fun k i s => if sd k = true then M'.1 k i s else M.1 k i s, fun k i s => if sd k = true then M'.2.1 k i s else M.2.1 k i s, fun k i s => if sd k = true then M'.2.2.1 k i s else M.2.2.1 k i s, fun k i s => if sd k = true then M'.2.2.2 k i s else M.2.2.2 k i s)
theorem mJ_on {sd : Nat → Bool} {M' M : Mem} {k i : Nat} (h : sd k = true) : (mJ sd M' M).1 k i = M'.1 k i ∧ (mJ sd M' M).2.1 k i = M'.2.1 k i ∧ (mJ sd M' M).2.2.1 k i = M'.2.2.1 k i ∧ (mJ sd M' M).2.2.2 k i = M'.2.2.2 k i := by
  refine ⟨?_, ?_, ?_, ?_⟩ <;> (funext s; exact if_pos h)
theorem mJ_off {sd : Nat → Bool} {M' M : Mem} {k i : Nat} (h : ¬ sd k = true) : (mJ sd M' M).1 k i = M.1 k i ∧ (mJ sd M' M).2.1 k i = M.2.1 k i ∧ (mJ sd M' M).2.2.1 k i = M.2.2.1 k i ∧ (mJ sd M' M).2.2.2 k i = M.2.2.2 k i := by
  refine ⟨?_, ?_, ?_, ?_⟩ <;> (funext s; exact if_neg h)
/-- the two sides of a world don't refer to each other -/
def Apart (sd : Nat → Bool) (cn : Nat → Nat) : Prop := (∀ k i, inD cn k i → ∀ q ∈ fT k i, sd q.1 = sd k) ∧ ∀ k i s t, inD cn k i → tgK k s = some t → sd t = sd k
/-- what a call of one side may write -/
def bS (sd : Nat → Bool) (ad : Ads) (cn : Nat → Nat) (n : Nat) : Nat → Prop := fun q => (∃ k i, sd k = true ∧ inD cn k i ∧ q = ad k i) ∨ n ≤ q
def cnS (sd : Nat → Bool) (cn : Nat → Nat) : Nat → Nat := fun k => if sd k = true then cn k else 0
theorem inD_S {sd : Nat → Bool} {cn : Nat → Nat} {k i : Nat} : inD (cnS sd cn) k i ↔ sd k = true ∧ inD cn k i := by
  unfold inD cnS
  by_cases h : sd k = true
  · rw [if_pos h]
    exact ⟨fun q => ⟨h, q⟩, fun q => q.2⟩
  · rw [if_neg h]
    exact ⟨fun q => absurd q (Nat.not_lt_zero _), fun q => absurd q.1 h⟩
theorem HW.part {D : va_G} {cA : Nat → ClassId} {b0 : Nat → Prop} {ad : Ads} {cn : Nat → Nat} {M : Mem} {H : Heap} (sd : Nat → Bool) (hw : HW D cA b0 ad cn M H) (hA : Apart sd cn) : HW D cA (bS sd ad cn H.size) ad (cnS sd cn) M H := by
  obtain ⟨h1, h2, h3, h4, h5, h6⟩ := hw
  refine ⟨fun k i h => h1 k i (inD_S.mp h).2, fun k i k' i' h h' => h2 k i k' i' (inD_S.mp h).2 (inD_S.mp h').2, fun k i h => Or.inl ⟨k, i, (inD_S.mp h).1, (inD_S.mp h).2, rfl⟩, fun k hk => ?_, fun k i s j t h hj ht => ?_, fun k i h q hq => ?_⟩
  · unfold cnS
    split
    · exact h4 k hk
    · rfl
  · obtain ⟨g1, g2⟩ := inD_S.mp h
    exact inD_S.mpr ⟨(hA.2 k i s t g2 ht).trans g1, h5 k i s j t g2 hj ht⟩
  · obtain ⟨g1, g2⟩ := inD_S.mp h
    exact inD_S.mpr ⟨(hA.1 k i g2 q hq).trans g1, h6 k i g2 q hq⟩
theorem HW.join {D : va_G} {cA : Nat → ClassId} {b0 : Nat → Prop} {ad ad' : Ads} {cn cn' : Nat → Nat} {M M' : Mem} {H H1 : Heap} (sd : Nat → Bool) (hw : HW D cA b0 ad cn M H) (hA : Apart sd cn) (hn : HW D cA (bS sd ad cn H.size) ad' cn' M' H1) (h0 : ∀ k, sd k = false → cn' k = 0) (hfr : ∀ q : Nat, q < H.size → ¬ bS sd ad cn H.size q → H1[q]? = H[q]?) (hb : ∀ q, H.size ≤ q → b0 q) :
    HW D cA b0 (adJ sd ad' ad) (cnJ sd cn' cn) (mJ sd M' M) H1 := by
  obtain ⟨h1, h2, h3, h4, h5, h6⟩ := hw
  obtain ⟨n1, n2, n3, n4, n5, n6⟩ := hn
  have hd : ∀ k i, inD (cnJ sd cn' cn) k i ↔ (sd k = true ∧ inD cn' k i) ∨ (¬ sd k = true ∧ inD cn k i) := fun k i => by
    unfold inD cnJ
    by_cases h : sd k = true
    · rw [if_pos h]
      exact ⟨fun q => Or.inl ⟨h, q⟩, fun q => q.elim (fun q => q.2) (fun q => absurd h q.1)⟩
    · rw [if_neg h]
      exact ⟨fun q => Or.inr ⟨h, q⟩, fun q => q.elim (fun q => absurd q.1 h) (fun q => q.2)⟩
  have hs : ∀ k i, inD cn' k i → sd k = true := fun k i h => by
    cases e : sd k with
    | true => rfl
    | false =>
      unfold inD at h
      rw [h0 k e] at h
      exact absurd h (Nat.not_lt_zero _)
  have a1 : ∀ k i, sd k = true → adJ sd ad' ad k i = ad' k i := fun k i h => if_pos h
  have a2 : ∀ k i, ¬ sd k = true → adJ sd ad' ad k i = ad k i := fun k i h => if_neg h
  have hlt : ∀ k i, inD cn k i → ad k i < H.size := fun k i h => (h1 k i h).lt
  have hnb : ∀ k i, ¬ sd k = true → inD cn k i → ¬ bS sd ad cn H.size (ad k i) := fun k i h h' g => by
    rcases g with ⟨k2, i2, g1, g2, g3⟩ | g
    · exact h ((h2 k i k2 i2 h' g2 g3).1 ▸ g1)
    · exact absurd (hlt k i h') (Nat.not_lt.mpr g)
  have hap : ∀ k i k' i', sd k = true → inD cn' k i → ¬ sd k' = true → inD cn k' i' → ad' k i ≠ ad k' i' := fun k i k' i' h g h' g' e => hnb k' i' h' g' (e ▸ n3 k i g)
  refine ⟨fun k i h => ?_, fun k i k' i' h g e => ?_, fun k i h => ?_, fun k hk => ?_, fun k i s j t h hj ht => ?_, fun k i h q hq => ?_⟩
  · rcases (hd k i).mp h with ⟨u, v⟩ | ⟨u, v⟩
    · obtain ⟨z1, z2, z3, z4⟩ := mJ_on (M' := M') (M := M) (i := i) u
      have e1 : cM cA (adJ sd ad' ad) (mJ sd M' M) k i = cM cA ad' M' k i := by
        have e2 : cM cA (adJ sd ad' ad) M' k i = cM cA ad' M' k i := cM_ag n5 n6 v (fun k' i' h' => a1 k' i' (hs k' i' h'))
        rw [← e2]
        unfold cM
        rw [z1, z2, z3, z4]
      rw [a1 k i u, e1]
      exact n1 k i v
    · obtain ⟨z1, z2, z3, z4⟩ := mJ_off (M' := M') (M := M) (i := i) u
      have e1 : cM cA (adJ sd ad' ad) (mJ sd M' M) k i = cM cA ad M k i := by
        have e2 : cM cA (adJ sd ad' ad) M k i = cM cA ad M k i := cG_ag (fun q hq => a2 _ _ (by rw [hA.1 k i v q hq]; exact u)) (fun s t ht j hj => a2 _ _ (by rw [hA.2 k i s t v ht]; exact u))
        rw [← e2]
        unfold cM
        rw [z1, z2, z3, z4]
      rw [a2 k i u, e1]
      exact (h1 k i v).kept (hfr _ (hlt k i v) (hnb k i u v))
  · rcases (hd k i).mp h with ⟨u, v⟩ | ⟨u, v⟩ <;> rcases (hd k' i').mp g with ⟨u', v'⟩ | ⟨u', v'⟩
    · rw [a1 k i u, a1 k' i' u'] at e
      exact n2 _ _ _ _ v v' e
    · rw [a1 k i u, a2 k' i' u'] at e
      exact absurd e (hap _ _ _ _ u v u' v')
    · rw [a2 k i u, a1 k' i' u'] at e
      exact absurd e.symm (hap _ _ _ _ u' v' u v)
    · rw [a2 k i u, a2 k' i' u'] at e
      exact h2 _ _ _ _ v v' e
  · rcases (hd k i).mp h with ⟨u, v⟩ | ⟨u, v⟩
    · rw [a1 k i u]
      rcases n3 k i v with ⟨k2, i2, g1, g2, g3⟩ | g
      · rw [g3]
        exact h3 k2 i2 g2
      · exact hb _ g
    · rw [a2 k i u]
      exact h3 k i v
  · unfold cnJ
    split
    · exact n4 k hk
    · exact h4 k hk
  · rcases (hd k i).mp h with ⟨u, v⟩ | ⟨u, v⟩
    · rw [(mJ_on u).2.1] at hj
      have := n5 k i s j t v hj ht
      exact (hd t j).mpr (Or.inl ⟨hs t j this, this⟩)
    · rw [(mJ_off u).2.1] at hj
      exact (hd t j).mpr (Or.inr ⟨by rw [hA.2 k i s t v ht]; exact u, h5 k i s j t v hj ht⟩)
  · rcases (hd k i).mp h with ⟨u, v⟩ | ⟨u, v⟩
    · have := n6 k i v q hq
      exact (hd _ _).mpr (Or.inl ⟨hs _ _ this, this⟩)
    · exact (hd _ _).mpr (Or.inr ⟨by rw [hA.1 k i v q hq]; exact u, h6 k i v q hq⟩)
