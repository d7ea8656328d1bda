-- MODEL
/-! one turn of the law: what holds behind the room's call and the model's -/
theorem side_a {o : Res} {S : Sg} {P : List Pc} {nx : Nat} {r : Option AV} {M M1 : Mem} (hM : RepMo S P nx M) (h : wR o r M1) (hP : o.2.2.2.1.length ≤ 40) : r = some (aI (o.1 : Nat)) ∧ RepRoom o.2.2.1 o.2.2.2.1 o.2.2.2.2 (mJ sdR M1 M) ∧ RepMo S P nx (mJ sdR M1 M) ∧ (o.1 = 0 → (mJ sdR M1 M).2.2.1 80 0 0 = (Int32.ofInt o.2.1).toInt) := by
  obtain ⟨h1, h2, h3⟩ := h
  exact ⟨h1, h2.side hP mJ_R', hM.side mJ_R, fun e => (congrFun (mJ_R' (M' := M1) (M := M) 80 0 (fun q => by cases q)).2.2.1 0).trans (h3 e)⟩
theorem side_b {o : Res} {S : Sg} {P : List Pc} {nx : Nat} {r : Option AV} {M M1 : Mem} (hR : RepRoom S P nx M) (hP : P.length ≤ 40) (h : okM o r M1) : (∃ v : Int, r = some (aI v) ∧ (o.1 = 0 → v = o.2.1)) ∧ RepMo o.2.2.1 o.2.2.2.1 o.2.2.2.2 (mJ sdM M1 M) ∧ RepRoom S P nx (mJ sdM M1 M) ∧ (mJ sdM M1 M).1 40 0 0 = (o.1 : Nat) ∧ (mJ sdM M1 M).2.2.1 80 0 0 = M.2.2.1 80 0 0 := by
  obtain ⟨h1, h2, h3⟩ := h
  refine ⟨h3, h2.side mJ_M', hR.side hP mJ_M, ?_, congrFun (mJ_M (M' := M1) (M := M) 80 0 (fun q => by cases q)).2.2.1 0⟩
  exact (congrFun (mJ_on (sd := sdM) (M' := M1) (M := M) (k := 40) (i := 0) rfl).1 0).trans h1
/-- a call of the room without a wrapper -/
theorem side_c {o : Res} {S : Sg} {P : List Pc} {nx : Nat} {r : Option AV} {M M1 : Mem} (hM : RepMo S P nx M) (h : okR o r M1) (hP : o.2.2.2.1.length ≤ 40) : r = some (aI o.2.1) ∧ RepRoom o.2.2.1 o.2.2.2.1 o.2.2.2.2 (mJ sdR M1 M) ∧ RepMo S P nx (mJ sdR M1 M) := by
  obtain ⟨-, h1, h2⟩ := h
  exact ⟨h1, h2.side hP mJ_R', hM.side mJ_R⟩
theorem mJ_same {sd : Nat → Bool} {M : Mem} : mJ sd M M = M := by
  have e : ∀ {α : Type} (f : Nat → Nat → Nat → α), (fun k i s => if sd k = true then f k i s else f k i s) = f := fun f => by
    funext k i s
    split <;> rfl
  unfold mJ
  rw [e, e, e, e]
