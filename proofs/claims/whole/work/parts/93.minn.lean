/-! the least length of a nested marker, as a function of the abstract state -/
def eqN (P P' : List Pc) : Prop := P.map Prod.snd = P'.map Prod.snd
theorem eqN.any {P P' : List Pc} (h : eqN P P') (g : (Nat × Nat × Nat × Nat × Nat) → Bool) : P.any (fun p => g p.2) = P'.any (fun p => g p.2) := by
  have e : ∀ Q : List Pc, Q.any (fun p => g p.2) = (Q.map Prod.snd).any g := fun Q => by
    rw [List.any_map]
    rfl
  rw [e, e, h]
theorem clo_any {S : Sg} {P : List Pc} {k : Nat} : clo S P k ≠ -1 ↔ P.any (fun p => cv S p (k / 12) (k % 12)) = true := by
  unfold clo
  cases hf : P.find? (fun p => cv S p (k / 12) (k % 12)) with
  | none =>
    refine ⟨fun h => absurd rfl h, fun h => ?_⟩
    obtain ⟨p, hp, hc⟩ := List.any_eq_true.mp h
    exact absurd hc (List.find?_eq_none.mp hf p hp)
  | some p =>
    refine ⟨fun _ => List.any_eq_true.mpr ⟨p, List.mem_of_find?_eq_some hf, List.find?_some (p := fun p => cv S p (k / 12) (k % 12)) hf⟩, fun _ => ?_⟩
    show (pNum p : Int) ≠ -1
    omega
theorem clo_N {S : Sg} {P P' : List Pc} (h : eqN P P') (k : Nat) : clo S P k ≠ -1 ↔ clo S P' k ≠ -1 := by
  rw [clo_any, clo_any]
  have e := h.any (fun q => cv S (0, q) (k / 12) (k % 12))
  exact ⟨fun q => e.symm.trans q, fun q => e.trans q⟩
theorem strp_N {S : Sg} {P P' : List Pc} (h : eqN P P') (j t mi : Nat) (row : Int) : strp S P j t mi row = strp S P' j t mi row := by
  unfold strp
  have e := h.any (fun q => gpS S (pShp (0, q)) == gpS S j && !(remP S (0, q) == remS S (row + mkR S j t mi)))
  exact congrArg (fun b => (decide (gpS S j ≠ 0) && decide (2 ≤ srS S)) && b) e
theorem reasonS_N {S : Sg} {P P' : List Pc} (h : eqN P P') (j t mi : Nat) (row col : Int) : reasonS S P j t mi row col = reasonS S P' j t mi row col := by
  unfold reasonS
  rw [strp_N h]
  have e : (fun r c => decide (clo S P (12 * (row.toNat + r) + (col.toNat + c)) ≠ -1)) = fun r c => decide (clo S P' (12 * (row.toNat + r) + (col.toNat + c)) ≠ -1) := by
    funext r c
    exact decide_eq_decide.mpr (clo_N h _)
  rw [e]
theorem lenF_cg {f g : Nat → Bool} {n : Nat} (h : ∀ i, i < n → f i = g i) : lenF f n = lenF g n := by
  induction n with
  | zero => rfl
  | succ n ih =>
    show (if f n then n + 1 else lenF f n) = if g n then n + 1 else lenF g n
    rw [h n (by omega), ih fun i hi => h i (by omega)]
theorem anyRow_iff {S : Sg} {P : List Pc} {r : Nat} : anyRow S P r = true ↔ ∃ c, c < 12 ∧ clo S P (12 * r + c) ≠ -1 := by
  unfold anyRow
  simp only [List.any_eq_true, List.mem_range, decide_eq_true_eq]
theorem lenR_N {S : Sg} {P P' : List Pc} (h : eqN P P') : lenR S P = lenR S P' := lenF_cg fun r _ => by
  rw [Bool.eq_iff_iff, anyRow_iff, anyRow_iff]
  exact ⟨fun ⟨c, hc, q⟩ => ⟨c, hc, (clo_N h _).mp q⟩, fun ⟨c, hc, q⟩ => ⟨c, hc, (clo_N h _).mpr q⟩⟩
theorem lenF_mono {f g : Nat → Bool} {n : Nat} (h : ∀ i, i < n → f i = true → g i = true) : lenF f n ≤ lenF g n := by
  induction n with
  | zero => exact Nat.le_refl 0
  | succ n ih =>
    have i1 := ih fun i hi => h i (by omega)
    have l1 : lenF f n ≤ n := lenF_le f n
    show (if f n then n + 1 else lenF f n) ≤ if g n then n + 1 else lenF g n
    by_cases hf : f n = true
    · rw [if_pos hf, if_pos (h n (by omega) hf)]
      exact Nat.le_refl _
    · rw [if_neg hf]
      split <;> omega
theorem lenR_app {S : Sg} {P Q : List Pc} : lenR S P ≤ lenR S (P ++ Q) := lenF_mono fun r _ h => by
  rw [anyRow_iff] at h ⊢
  obtain ⟨c, hc, q⟩ := h
  refine ⟨c, hc, ?_⟩
  rw [clo_any] at q ⊢
  rw [List.any_append, q]
  rfl
/-- the first number under n of which f holds -/
def fsF (f : Nat → Bool) : Nat → Option Nat
  | 0 => none
  | n + 1 => match fsF f n with
    | some s => some s
    | none => if f n then some n else none
theorem fsF_none {f : Nat → Bool} : ∀ {n : Nat}, fsF f n = none → ∀ s, s < n → f s = false
  | 0, _, s, hs => absurd hs (Nat.not_lt_zero s)
  | n + 1, h, s, hs => by
    unfold fsF at h
    cases hn : fsF f n with
    | some t =>
      rw [hn] at h
      cases h
    | none =>
      rw [hn] at h
      by_cases e : s = n
      · subst e
        cases hf : f s with
        | false => rfl
        | true =>
          simp only [hf] at h
          cases h
      · exact fsF_none hn s (by omega)
theorem fsF_some {f : Nat → Bool} : ∀ {n s : Nat}, fsF f n = some s → s < n ∧ f s = true ∧ ∀ s', s' < s → f s' = false
  | 0, s, h => by cases h
  | n + 1, s, h => by
    unfold fsF at h
    cases hn : fsF f n with
    | some t =>
      rw [hn] at h
      cases h
      obtain ⟨a1, a2, a3⟩ := fsF_some hn
      exact ⟨by omega, a2, a3⟩
    | none =>
      rw [hn] at h
      cases hf : f n with
      | false =>
        simp only [hf] at h
        cases h
      | true =>
        simp only [hf] at h
        cases h
        exact ⟨Nat.lt_succ_self _, hf, fun s' hs => fsF_none hn s' hs⟩
def zF (S : Sg) (P : List Pc) (j m : Nat) : Int := match fsF (fun s => decide (reasonS S P j (s % 4) m ((s / 4 / 12 : Nat) : Int) ((s / 4 % 12 : Nat) : Int) = 45)) 2880 with
  | some s => (s : Int)
  | none => -1
theorem zF_sp (S : Sg) (P : List Pc) (j m : Nat) : FSp S P j m (zF S P j m) := by
  unfold zF
  cases hf : fsF (fun s => decide (reasonS S P j (s % 4) m ((s / 4 / 12 : Nat) : Int) ((s / 4 % 12 : Nat) : Int) = 45)) 2880 with
  | none => exact Or.inl ⟨rfl, fun s hs h => by
      have h1 := fsF_none hf s hs
      rw [decide_eq_false_iff_not] at h1
      exact h1 h⟩
  | some s =>
    obtain ⟨a1, a2, a3⟩ := fsF_some hf
    rw [decide_eq_true_iff] at a2
    refine Or.inr ⟨s, a1, rfl, a2, fun s' hs h => ?_⟩
    have h1 := a3 s' hs
    rw [decide_eq_false_iff_not] at h1
    exact h1 h
theorem zF_N {S : Sg} {P P' : List Pc} (h : eqN P P') (j m : Nat) : zF S P j m = zF S P' j m := by
  unfold zF
  rw [show (fun s => decide (reasonS S P j (s % 4) m ((s / 4 / 12 : Nat) : Int) ((s / 4 % 12 : Nat) : Int) = 45)) = fun s => decide (reasonS S P' j (s % 4) m ((s / 4 / 12 : Nat) : Int) ((s / 4 % 12 : Nat) : Int) = 45) from funext fun s => by rw [reasonS_N h]]
theorem zF_z {S : Sg} {P : List Pc} {j m : Nat} (h : szS S j = 0) : zF S P j m = -1 := by
  rcases zF_sp S P j m with h1 | ⟨s, -, -, h3, -⟩
  · exact h1.1
  · unfold free reasonS at h3
    rw [if_pos h] at h3
    cases h3
theorem zF_rg (S : Sg) (P : List Pc) (j m : Nat) : zF S P j m = -1 ∨ ∃ s : Nat, s < 2880 ∧ zF S P j m = s ∧ free S P j m s := by
  rcases zF_sp S P j m with h1 | ⟨s, h1, h2, h3, -⟩
  · exact Or.inl h1.1
  · exact Or.inr ⟨s, h1, h2, h3⟩
def pcK (n k : Nat) (z : Int) : Pc := (n, k / 2, z.toNat % 4, z.toNat / 4 / 12, z.toNat / 4 % 12, k % 2)
theorem eqN.app {P P' : List Pc} (h : eqN P P') (n n' k : Nat) (z : Int) : eqN (P ++ [pcK n k z]) (P' ++ [pcK n' k z]) := by
  unfold eqN
  rw [List.map_append, List.map_append, h]
  rfl
def dec1 (w : Nat → Nat) (k : Nat) : Nat → Nat := fun i => if i = k then w i - 1 else w i
def minF (f : Nat → Nat) : Nat → Nat
  | 0 => 61
  | n + 1 => min (minF f n) (f n)
theorem minF_le61 (f : Nat → Nat) (n : Nat) : minF f n ≤ 61 := by
  induction n with
  | zero => exact Nat.le_refl _
  | succ n ih => exact Nat.le_trans (Nat.min_le_left _ _) ih
theorem minF_le {f : Nat → Nat} {n k : Nat} (h : k < n) : minF f n ≤ f k := by
  induction n with
  | zero => omega
  | succ n ih =>
    by_cases e : k = n
    · subst e
      exact Nat.min_le_right _ _
    · exact Nat.le_trans (Nat.min_le_left _ _) (ih (by omega))
theorem le_minF {f : Nat → Nat} {n b : Nat} (h : b ≤ 61) (hf : ∀ k, k < n → b ≤ f k) : b ≤ minF f n := by
  induction n with
  | zero => exact h
  | succ n ih => exact Nat.le_min.mpr ⟨ih fun k hk => hf k (by omega), hf n (by omega)⟩
theorem minF_cg {f g : Nat → Nat} {n : Nat} (h : ∀ k, k < n → f k = g k) : minF f n = minF g n := by
  induction n with
  | zero => rfl
  | succ n ih =>
    show min (minF f n) (f n) = min (minF g n) (g n)
    rw [ih fun k hk => h k (by omega), h n (by omega)]
theorem minF_ex (f : Nat → Nat) (n : Nat) : minF f n = 61 ∨ ∃ k, k < n ∧ minF f n = f k := by
  induction n with
  | zero => exact Or.inl rfl
  | succ n ih =>
    show min (minF f n) (f n) = 61 ∨ ∃ k, k < n + 1 ∧ min (minF f n) (f n) = f k
    by_cases h : minF f n ≤ f n
    · rw [Nat.min_eq_left h]
      rcases ih with q | ⟨k, hk, q⟩
      · exact Or.inl q
      · exact Or.inr ⟨k, by omega, q⟩
    · rw [Nat.min_eq_right (by omega)]
      exact Or.inr ⟨n, by omega, rfl⟩
def minN (S : Sg) : Nat → (Nat → Nat) → List Pc → Nat
  | 0, _, Q => lenR S Q
  | n + 1, w, Q => minF (fun k => if 0 < w k ∧ zF S Q (k / 2) (k % 2) ≠ -1 then minN S n (dec1 w k) (Q ++ [pcK 0 k (zF S Q (k / 2) (k % 2))]) else 61) 16
theorem minN_le61 {S : Sg} : ∀ {n : Nat} {w : Nat → Nat} {Q : List Pc}, minN S n w Q ≤ 61
  | 0, _, _ => Nat.le_trans (lenR_le _ _) (by decide)
  | _ + 1, _, _ => minF_le61 _ _
theorem minN_ge {S : Sg} : ∀ {n : Nat} {w : Nat → Nat} {Q : List Pc}, lenR S Q ≤ minN S n w Q
  | 0, _, _ => Nat.le_refl _
  | n + 1, w, Q => le_minF (Nat.le_trans (lenR_le _ _) (by decide)) fun k _ => by
    split
    · exact Nat.le_trans lenR_app minN_ge
    · exact Nat.le_trans (lenR_le _ _) (by decide)
theorem minN_cg {S : Sg} : ∀ {n : Nat} {w w' : Nat → Nat} {Q Q' : List Pc}, (∀ k, k < 16 → w k = w' k) → eqN Q Q' → minN S n w Q = minN S n w' Q'
  | 0, _, _, _, _, _, hq => lenR_N hq
  | n + 1, w, w', Q, Q', hw, hq => minF_cg fun k hk => by
    rw [hw k hk, zF_N hq]
    split
    · exact minN_cg (fun i hi => by unfold dec1; rw [hw i hi]) (hq.app 0 0 k _)
    · rfl
/-- what is nested of each kind: kind 2j is shape j plain, 2j + 1 mirrored -/
def wnS (S : Sg) (y k : Nat) : Nat := if k % 2 = 0 then (if fdS S = 1 ∧ paS S (k / 2) = 0 then (ctS S y (k / 2) + 1) / 2 else ctS S y (k / 2)) else (if paS S (k / 2) = 1 ∧ fdS S = 0 then ctS S y (k / 2) else 0)
def nwS (S : Sg) (y : Nat) : Nat := sumN (wnS S y) 16
def leastS (S : Sg) (y : Nat) : Nat := minN S (nwS S y) (wnS S y) []
def oNested (a : Int) (S : Sg) (P : List Pc) (nx : Nat) : Res := if ¬ (0 ≤ a ∧ a < ntS S) then (1, 0, S, P, nx) else if ¬ (1 ≤ nwS S a.toNat ∧ nwS S a.toNat ≤ 4) then (2, 0, S, P, nx) else if 61 ≤ leastS S a.toNat then (3, 0, S, P, nx) else (0, (leastS S a.toNat : Int), S, P, nx)
