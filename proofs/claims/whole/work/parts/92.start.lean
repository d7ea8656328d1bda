/-! the state at the start -/
theorem inv0 : Inv S0 [] 0 := by
  refine ⟨⟨by decide, by decide, by decide, by decide, by decide, by decide, by decide, fun r c _ _ h => absurd rfl h, fun k _ => Nat.zero_le _, fun j => ⟨Nat.zero_le _, Nat.zero_le _, Nat.zero_le _, Nat.zero_le _, Nat.zero_le _, Nat.zero_le _, Nat.zero_le _, Nat.zero_le _, fun _ => Nat.zero_le _⟩, fun _ _ => Nat.zero_le _, Nat.zero_le _⟩, PInv.nil, Nat.zero_le _, fun _ _ _ => rfl⟩
theorem invZ0 : InvZ S0 := ⟨fun _ _ => ⟨rfl, rfl, fun _ => rfl, rfl, rfl, rfl, rfl, rfl, rfl, fun _ => rfl⟩, fun _ _ => ⟨rfl, fun _ => rfl⟩⟩
theorem invC0 : InvC S0 := fun j => by
  show 0 = _
  rw [show (fun k => dB S0 j k) = fun _ => false from rfl]
  rfl
theorem Room0.rep {M : Mem} (h : Room0 M) : RepRoom S0 [] 0 M := by
  obtain ⟨h0, h1, h20, h21, hm, h3, ha, hw⟩ := h
  obtain ⟨m1, m2, m3, m4⟩ := hm 0 (by omega)
  obtain ⟨n1, n2, n3, n4⟩ := hm 1 (by omega)
  refine ⟨⟨⟨h1 0, h1 1, h1 2, h1 3, h1 4, fun r _ => (h20 r).trans rfl⟩, fun r _ => (h21 r).trans rfl⟩, fun j hj => absurd hj (Nat.not_lt_zero j), ⟨fun i => i, m1 1, m1 2, ⟨fun i hi => ⟨hi, m2 i hi⟩, fun _ _ _ _ e => e, fun i p hp => by cases hp⟩, fun k hk => m3 k hk, fun r _ => (m4 23 (by omega) r).trans rfl, fun g _ => (m4 24 (by omega) g).trans rfl, fun p hp => by cases hp⟩, fun y hy => absurd hy (Nat.not_lt_zero y), ⟨h0 3, h0 5, h0 6, fun j _ => (ha j).1, fun y _ => (ha y).2⟩, ⟨fun i => i, fun i hi => ⟨hi, n2 i hi⟩, fun _ _ _ _ e => e⟩⟩
