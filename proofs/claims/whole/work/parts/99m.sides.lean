/-! the law's world: the room's cells and the model's -/
def sdM (k : Nat) : Bool := Nat.ble 40 k && Nat.ble k 70
def sdR (k : Nat) : Bool := !(sdM k)
def cnB (ns nt : Nat) (k : Nat) : Nat := if sdM k = true then cntM k else cnt ns nt k
theorem sdM_iff {k : Nat} : sdM k = true ↔ 40 ≤ k ∧ k ≤ 70 := by
  unfold sdM
  rw [Bool.and_eq_true]
  exact ⟨fun h => ⟨Nat.le_of_ble_eq_true h.1, Nat.le_of_ble_eq_true h.2⟩, fun h => ⟨Nat.ble_eq_true_of_le h.1, Nat.ble_eq_true_of_le h.2⟩⟩
theorem cnt_mid {ns nt k : Nat} (h : 40 ≤ k ∧ k ≤ 70) : cnt ns nt k = 0 := by
  unfold cnt
  split <;> first | rfl | (exfalso; omega)
theorem cnt_hi {ns nt k : Nat} (h : 82 ≤ k) : cnt ns nt k = 0 := by
  unfold cnt
  split <;> first | rfl | (exfalso; omega)
theorem cnS_R (ns nt : Nat) : cnS sdR (cnB ns nt) = cnt ns nt := by
  funext k
  unfold cnS sdR cnB
  by_cases h : sdM k = true
  · rw [h, cnt_mid (sdM_iff.mp h)]
    rfl
  · rw [Bool.not_eq_true] at h
    rw [h]
    rfl
theorem cnS_M (ns nt : Nat) : cnS sdM (cnB ns nt) = cntM := by
  funext k
  unfold cnS cnB
  by_cases h : sdM k = true
  · rw [if_pos h, if_pos h]
  · rw [if_neg h]
    exact (cntM_out (fun g => h (sdM_iff.mpr g))).symm
theorem cnB_lt {ns nt k i : Nat} (h : inD (cnB ns nt) k i) : k < 90 := by
  refine Nat.lt_of_not_le fun g => ?_
  unfold inD cnB at h
  rw [if_neg (fun q => by have := (sdM_iff.mp q).2; omega), cnt_hi (by omega)] at h
  exact absurd h (Nat.not_lt_zero _)
theorem fT_side {k i : Nat} {q : Nat × Nat} (h : q ∈ fT k i) : sdM q.1 = sdM k := by
  have h1 : (fT k i).all (fun q => sdM q.1 == sdM k) = true := by
    unfold fT
    split <;> rfl
  exact eq_of_beq (List.all_eq_true.mp h1 q h)
theorem tgK_side {k s t : Nat} (hk : k < 90) (h : tgK k s = some t) : sdM t = sdM k := by
  unfold tgK at h
  split at h <;> first | (cases h; done) | (exfalso; omega) | (cases h; rfl) | (split at h <;> first | (cases h; done) | (cases h; rfl) | (exfalso; omega))
theorem apM (ns nt : Nat) : Apart sdM (cnB ns nt) := ⟨fun _ _ _ _ hq => fT_side hq, fun _ _ _ _ h ht => tgK_side (cnB_lt h) ht⟩
theorem apR (ns nt : Nat) : Apart sdR (cnB ns nt) := ⟨fun _ _ _ _ hq => congrArg (fun b => !b) (fT_side hq), fun _ _ _ _ h ht => congrArg (fun b => !b) (tgK_side (cnB_lt h) ht)⟩
/-- what one side says isn't touched by the other -/
theorem RepRoom.side {S : Sg} {P : List Pc} {nx : Nat} {M M' : Mem} (h : RepRoom S P nx M) (hP : P.length ≤ 40) (hF : Fr (fun k _ => sdM k = true) M M') : RepRoom S P nx M' := by
  have nK : ∀ k, ¬ (40 ≤ k ∧ k ≤ 70) → ¬ sdM k = true := fun k h g => h (sdM_iff.mp g)
  obtain ⟨r1, r2, r3, r4, r5, ff, t1, t2⟩ := h
  exact ⟨r1.fr hF (nK _ (by omega)) (nK _ (by omega)) (nK _ (by omega)), r2.fr hF (fun i => ⟨nK _ (by omega), nK _ (by omega), nK _ (by omega), nK _ (by omega), nK _ (by omega)⟩), RepMk.fr hP hF ⟨nK _ (by omega), nK _ (by omega), nK _ (by omega), nK _ (by omega), nK _ (by omega), nK _ (by omega)⟩ (fun _ _ => nK _ (by omega)) r3, r4.fr hF (fun i => ⟨nK _ (by omega), nK _ (by omega)⟩), r5.fr hF (nK _ (by omega)) (nK _ (by omega)) (nK _ (by omega)), ff, fun i hi => by rw [(hF 12 1 (nK _ (by omega))).2.1]; exact t1 i hi, t2⟩
theorem RepMo.side {S : Sg} {P : List Pc} {nx : Nat} {M M' : Mem} (h : RepMo S P nx M) (hF : Fr (fun k _ => sdR k = true) M M') : RepMo S P nx M' := by
  have nK : ∀ k, 40 ≤ k ∧ k ≤ 70 → ¬ sdR k = true := fun k h g => by
    unfold sdR at g
    rw [sdM_iff.mpr h] at g
    cases g
  exact h.fr ⟨fun s _ _ => congrFun (hF 40 0 (nK _ (by omega))).1 s, congrFun (hF 40 0 (nK _ (by omega))).2.2.1 32, fun k a b j => congrFun (hF k 0 (nK _ (by omega))).1 j⟩
theorem mJ_R {M' M : Mem} : Fr (fun k _ => sdR k = true) M (mJ sdR M' M) := fun k i h => mJ_off h
theorem mJ_M {M' M : Mem} : Fr (fun k _ => sdM k = true) M (mJ sdM M' M) := fun k i h => mJ_off h
theorem mJ_R' {M' M : Mem} : Fr (fun k _ => sdM k = true) M' (mJ sdR M' M) := fun k i h => mJ_on (by unfold sdR; rw [Bool.not_eq_true] at h; rw [h]; rfl)
theorem mJ_M' {M' M : Mem} : Fr (fun k _ => sdR k = true) M' (mJ sdM M' M) := fun k i h => mJ_on (by
  cases e : sdM k with
  | true => rfl
  | false => exact absurd (show (!(sdM k)) = true by rw [e]; rfl) h)
