/-! the least length by trying all orders -/
def swp (qv : Nat → Nat) (pl n : Nat) : Nat → Nat := fun i => if i = pl then qv n else qv i
def lio (S : Sg) : Nat → (Nat → Nat) → List Pc → Nat → Nat
  | 0, _, Q, _ => lenR S Q
  | n + 1, qv, Q, ord => if zF S Q (qv (ord % (n + 1)) / 2) (qv (ord % (n + 1)) % 2) = -1 then 61 else lio S n (swp qv (ord % (n + 1)) n) (Q ++ [pcK 0 (qv (ord % (n + 1))) (zF S Q (qv (ord % (n + 1)) / 2) (qv (ord % (n + 1)) % 2))]) (ord / (n + 1))
def wOf (qv : Nat → Nat) (n : Nat) (k : Nat) : Nat := sumN (fun i => if qv i = k then 1 else 0) n
def fct : Nat → Nat
  | 0 => 1
  | n + 1 => (n + 1) * fct n
theorem sumN_up {f : Nat → Nat} {p b : Nat} : ∀ {n : Nat}, p < n → sumN (fun i => if i = p then b else f i) n + f p = sumN f n + b
  | 0, h => absurd h (Nat.not_lt_zero _)
  | n + 1, h => by
    show sumN (fun i => if i = p then b else f i) n + (if n = p then b else f n) + f p = sumN f n + f n + b
    by_cases e : n = p
    · subst e
      rw [if_pos rfl, show sumN (fun i => if i = n then b else f i) n = sumN f n from sumN_cg fun i hi => if_neg (by omega)]
      omega
    · have ih := sumN_up (f := f) (p := p) (b := b) (n := n) (by omega)
      rw [if_neg e]
      omega
theorem wOf_ge {qv : Nat → Nat} {n p : Nat} (h : p < n) : 0 < wOf qv n (qv p) := by
  unfold wOf
  refine Nat.pos_of_ne_zero fun e => ?_
  have := sumN_0.mp e p h
  rw [if_pos rfl] at this
  cases this
theorem wOf_ex {qv : Nat → Nat} {n k : Nat} (h : 0 < wOf qv n k) : ∃ p, p < n ∧ qv p = k := by
  refine Decidable.byContradiction fun hn => ?_
  have e : wOf qv n k = 0 := sumN_0.mpr fun i hi => if_neg (fun g => hn ⟨i, hi, g⟩)
  omega
theorem wOf_swp {qv : Nat → Nat} {pl n : Nat} (h : pl < n + 1) (k : Nat) : wOf (swp qv pl n) n k = dec1 (wOf qv (n + 1)) (qv pl) k := by
  have e1 : wOf qv (n + 1) k = wOf qv n k + (if qv n = k then 1 else 0) := rfl
  unfold dec1
  by_cases e : pl = n
  · subst e
    have e2 : wOf (swp qv pl pl) pl k = wOf qv pl k := sumN_cg fun i hi => by
      rw [show swp qv pl pl i = qv i from if_neg (by omega)]
    rw [e2]
    by_cases e3 : k = qv pl
    · rw [if_pos e3, e1, if_pos e3.symm]
      omega
    · rw [if_neg e3, e1, if_neg (fun g => e3 g.symm)]
      rfl
  · have e2 : wOf (swp qv pl n) n k + (if qv pl = k then 1 else 0) = wOf qv n k + (if qv n = k then 1 else 0) := by
      have h2 := sumN_up (f := fun i => if qv i = k then 1 else 0) (p := pl) (b := if qv n = k then 1 else 0) (n := n) (by omega)
      have e4 : wOf (swp qv pl n) n k = sumN (fun i => if i = pl then (if qv n = k then 1 else 0) else (if qv i = k then 1 else 0)) n := sumN_cg fun i hi => by
        unfold swp
        by_cases e5 : i = pl
        · rw [if_pos e5, if_pos e5]
        · rw [if_neg e5, if_neg e5]
      rw [e4]
      exact h2
    by_cases e3 : k = qv pl
    · rw [if_pos e3, e1]
      rw [if_pos e3.symm] at e2
      omega
    · rw [if_neg e3, e1]
      rw [if_neg (fun g => e3 g.symm)] at e2
      omega
theorem lio_ge {S : Sg} : ∀ {n : Nat} {qv : Nat → Nat} {Q : List Pc} {ord : Nat}, (∀ i, i < n → qv i < 16) → minN S n (wOf qv n) Q ≤ lio S n qv Q ord
  | 0, _, _, _, _ => Nat.le_refl _
  | n + 1, qv, Q, ord, hq => by
    have hp : ord % (n + 1) < n + 1 := Nat.mod_lt _ (by omega)
    unfold lio
    by_cases h : zF S Q (qv (ord % (n + 1)) / 2) (qv (ord % (n + 1)) % 2) = -1
    · rw [if_pos h]
      exact minN_le61
    · rw [if_neg h]
      refine Nat.le_trans (minF_le (hq _ hp)) ?_
      rw [if_pos ⟨wOf_ge hp, h⟩]
      refine Nat.le_trans (Nat.le_of_eq (minN_cg (fun k _ => (wOf_swp hp k).symm) rfl)) (lio_ge fun i hi => ?_)
      unfold swp
      split
      · exact hq n (by omega)
      · exact hq i (by omega)
theorem lio_min {S : Sg} : ∀ {n : Nat} {qv : Nat → Nat} {Q : List Pc}, (∀ i, i < n → qv i < 16) → minF (lio S n qv Q) (fct n) = minN S n (wOf qv n) Q
  | 0, qv, Q, _ => by
    show min 61 (lenR S Q) = lenR S Q
    exact Nat.min_eq_right (Nat.le_trans (lenR_le S Q) (by decide))
  | n + 1, qv, Q, hq => by
    refine Nat.le_antisymm ?_ (le_minF minN_le61 fun ord _ => lio_ge hq)
    rcases minF_ex (fun k => if 0 < wOf qv (n + 1) k ∧ zF S Q (k / 2) (k % 2) ≠ -1 then minN S n (dec1 (wOf qv (n + 1)) k) (Q ++ [pcK 0 k (zF S Q (k / 2) (k % 2))]) else 61) 16 with h | ⟨k, hk, h⟩
    · show _ ≤ minF _ 16
      rw [h]
      exact minF_le61 _ _
    · show _ ≤ minF _ 16
      rw [h]
      by_cases hc : 0 < wOf qv (n + 1) k ∧ zF S Q (k / 2) (k % 2) ≠ -1
      · rw [if_pos hc]
        obtain ⟨pl, hpl, rfl⟩ := wOf_ex hc.1
        have hq' : ∀ i, i < n → swp qv pl n i < 16 := fun i hi => by
          unfold swp
          split
          · exact hq n (by omega)
          · exact hq i (by omega)
        have ih := lio_min (S := S) (Q := Q ++ [pcK 0 (qv pl) (zF S Q (qv pl / 2) (qv pl % 2))]) hq'
        rw [← minN_cg (fun k _ => wOf_swp hpl k) rfl, ← ih]
        rcases minF_ex (lio S n (swp qv pl n) (Q ++ [pcK 0 (qv pl) (zF S Q (qv pl / 2) (qv pl % 2))])) (fct n) with h | ⟨o, ho, h⟩
        · rw [h]
          exact minF_le61 _ _
        · rw [h]
          have ho2 : pl + (n + 1) * o < fct (n + 1) := by
            show _ < (n + 1) * fct n
            have h3 : (n + 1) * (o + 1) ≤ (n + 1) * fct n := Nat.mul_le_mul_left _ ho
            rw [Nat.mul_succ] at h3
            omega
          refine Nat.le_trans (minF_le ho2) ?_
          have em : (pl + (n + 1) * o) % (n + 1) = pl := by rw [Nat.add_mul_mod_self_left, Nat.mod_eq_of_lt hpl]
          have ed : (pl + (n + 1) * o) / (n + 1) = o := by rw [Nat.add_mul_div_left _ _ (by omega), Nat.div_eq_of_lt hpl, Nat.zero_add]
          have el : lio S (n + 1) qv Q (pl + (n + 1) * o) = if zF S Q (qv ((pl + (n + 1) * o) % (n + 1)) / 2) (qv ((pl + (n + 1) * o) % (n + 1)) % 2) = -1 then 61 else lio S n (swp qv ((pl + (n + 1) * o) % (n + 1)) n) (Q ++ [pcK 0 (qv ((pl + (n + 1) * o) % (n + 1))) (zF S Q (qv ((pl + (n + 1) * o) % (n + 1)) / 2) (qv ((pl + (n + 1) * o) % (n + 1)) % 2))]) ((pl + (n + 1) * o) / (n + 1)) := rfl
          rw [el, em, ed, if_neg hc.2]
          exact Nat.le_refl _
      · rw [if_neg hc]
        exact minF_le61 _ _
/-- the queue: each kind as often as it is wanted -/
def fqL (w : Nat → Nat) : Nat → List Nat
  | 0 => []
  | k + 1 => fqL w k ++ List.replicate (w k) k
theorem fqL_len (w : Nat → Nat) : ∀ k, (fqL w k).length = sumN w k
  | 0 => rfl
  | k + 1 => by
    show (fqL w k ++ List.replicate (w k) k).length = sumN w k + w k
    rw [List.length_append, List.length_replicate, fqL_len w k]
theorem fqL_count (w : Nat → Nat) (j : Nat) : ∀ k, (fqL w k).count j = if j < k then w j else 0
  | 0 => rfl
  | k + 1 => by
    show (fqL w k ++ List.replicate (w k) k).count j = _
    rw [List.count_append, fqL_count w j k, List.count_replicate]
    by_cases e : k = j
    · subst e
      simp
    · have eb : (k == j) = false := by simpa using e
      rw [eb, if_neg Bool.false_ne_true, Nat.add_zero]
      by_cases h : j < k
      · rw [if_pos h, if_pos (by omega)]
      · rw [if_neg h, if_neg (by omega)]
theorem fqL_lt (w : Nat → Nat) : ∀ k, ∀ x ∈ fqL w k, x < k
  | 0, x, h => by cases h
  | k + 1, x, h => by
    rcases List.mem_append.mp (show x ∈ fqL w k ++ List.replicate (w k) k from h) with h | h
    · exact Nat.lt_succ_of_lt (fqL_lt w k x h)
    · rw [List.eq_of_mem_replicate h]
      exact Nat.lt_succ_self _
theorem wOf_list (L : List Nat) (k : Nat) : wOf (fun i => L.getD i 0) L.length k = L.count k := by
  induction L with
  | nil => rfl
  | cons a L ih =>
    rw [List.count_cons, ← ih]
    have h : ∀ n, wOf (fun i => (a :: L).getD i 0) (n + 1) k = wOf (fun i => L.getD i 0) n k + (if a = k then 1 else 0) := by
      intro n
      induction n with
      | zero =>
        show 0 + _ = 0 + _
        rfl
      | succ n ihn =>
        show wOf (fun i => (a :: L).getD i 0) (n + 1) k + (if (a :: L).getD (n + 1) 0 = k then 1 else 0) = wOf (fun i => L.getD i 0) n k + (if L.getD n 0 = k then 1 else 0) + _
        rw [ihn, List.getD_cons_succ]
        omega
    rw [List.length_cons, h]
    by_cases e : a = k
    · rw [if_pos e, if_pos (by simpa using e)]
    · rw [if_neg e, if_neg (by simpa using e)]
