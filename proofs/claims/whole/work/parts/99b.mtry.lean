-- MODEL
/-! the model: trying all orders -/
section Rows
variable {p : Program} {l : Launch} {e : Env} {R : Room} {s : State} {m : MethodId} {args : Array Value} {below : List Frame} {meth : Method} {c : Code} {nL : Nat} {D : va_G} {cA : Nat → ClassId} {b0 : Nat → Prop} {cells slots : Nat} {Q : State → Prop} {lv : Lv} {st : List AV} {ad : Ads} {cn : Nat → Nat} {M : Mem} {cc : ByteArray} {own : String} {tab : List ExceptionTableEntry} {pc pc' : Nat}
theorem w_ixorZ (C : Cx l p s m args meth c cc own nL D cA b0 tab) {x y z : Int} (hd : DI cc pc .ixor 1 pc') (h : Int32.ofInt x ^^^ Int32.ofInt y = Int32.ofInt z) (kk : Wm p l e R s m args below meth c nL D cA b0 cells slots Q pc' lv (aI z :: st) ad cn M) : Wm p l e R s m args below meth c nL D cA b0 cells slots Q pc lv (aI y :: aI x :: st) ad cn M := by
  intro H locs ls hw hS hl
  have k9 := kk H locs ls hw hS hl
  rw [← hd.2] at k9
  refine lv_ixor C.1 C.2.1 hd.1 ?_
  rw [h]
  exact k9
theorem w_iandZ (C : Cx l p s m args meth c cc own nL D cA b0 tab) {x y z : Int} (hd : DI cc pc .iand 1 pc') (h : Int32.ofInt x &&& Int32.ofInt y = Int32.ofInt z) (kk : Wm p l e R s m args below meth c nL D cA b0 cells slots Q pc' lv (aI z :: st) ad cn M) : Wm p l e R s m args below meth c nL D cA b0 cells slots Q pc lv (aI y :: aI x :: st) ad cn M := by
  intro H locs ls hw hS hl
  have k9 := kk H locs ls hw hS hl
  rw [← hd.2] at k9
  refine lv_iand C.1 C.2.1 hd.1 ?_
  rw [h]
  exact k9
end Rows
def bt (v t : Nat) : Nat := v / 2 ^ t % 2
def nMk (N v : Nat) : Nat := sumN (fun t => bt v t) N
def wMk (qv : Nat → Nat) (N v k : Nat) : Nat := sumN (fun t => if bt v t = 1 ∧ qv t = k then 1 else 0) N
theorem bt_and : ∀ v, v < 16 → ∀ t, t < 4 → (v / 2 ^ t) &&& 1 = bt v t := by decide
theorem bt_xor : ∀ t, t < 4 → Int32.ofInt ((1 * 2 ^ t : Nat) : Int) ^^^ Int32.ofInt (-1) = Int32.ofInt (-1 - ((2 ^ t : Nat) : Int)) := by decide
theorem bt_clr : ∀ v, v < 16 → ∀ t, t < 4 → bt v t = 1 → Int32.ofInt (v : Int) &&& Int32.ofInt (-1 - ((2 ^ t : Nat) : Int)) = Int32.ofInt ((v - 2 ^ t : Nat) : Int) := by decide +kernel
theorem bt_sub : ∀ v, v < 16 → ∀ t, t < 4 → bt v t = 1 → ∀ u, u < 4 → bt (v - 2 ^ t) u = if u = t then 0 else bt v u := by decide +kernel
theorem bt_01 (v t : Nat) : bt v t = 0 ∨ bt v t = 1 := by
  unfold bt
  omega
theorem bt_0 : ∀ N, N < 5 → ∀ v, v < 2 ^ N → nMk N v = 0 → v = 0 := by decide +kernel
theorem nMk_sub {N v t : Nat} (hN : N ≤ 4) (hv : v < 16) (ht : t < N) (h : bt v t = 1) : nMk N (v - 2 ^ t) + 1 = nMk N v := by
  have h2 := sumN_up (f := fun u => bt v u) (p := t) (b := 0) (n := N) ht
  rw [h] at h2
  unfold nMk
  rw [show sumN (fun u => bt (v - 2 ^ t) u) N = sumN (fun u => if u = t then 0 else bt v u) N from sumN_cg fun u hu => bt_sub v hv t (by omega) h u (by omega)]
  omega
theorem wMk_sub {qv : Nat → Nat} {N v t : Nat} (hN : N ≤ 4) (hv : v < 16) (ht : t < N) (h : bt v t = 1) (k : Nat) : wMk qv N (v - 2 ^ t) k = dec1 (wMk qv N v) (qv t) k := by
  have h2 := sumN_up (f := fun u => if bt v u = 1 ∧ qv u = k then 1 else 0) (p := t) (b := 0) (n := N) ht
  have e : wMk qv N (v - 2 ^ t) k = sumN (fun u => if u = t then 0 else if bt v u = 1 ∧ qv u = k then 1 else 0) N := sumN_cg fun u hu => by
    rw [bt_sub v hv t (by omega) h u (by omega)]
    by_cases e : u = t
    · rw [if_pos e, if_pos e, if_neg (by omega)]
    · rw [if_neg e, if_neg e]
  have e2 : wMk qv N v k = sumN (fun u => if bt v u = 1 ∧ qv u = k then 1 else 0) N := rfl
  unfold dec1
  rw [e, e2]
  by_cases e3 : k = qv t
  · rw [if_pos e3]
    rw [if_pos ⟨h, e3.symm⟩] at h2
    omega
  · rw [if_neg e3]
    rw [if_neg (fun g => e3 g.2.symm)] at h2
    omega
theorem wMk_pos {qv : Nat → Nat} {N v t : Nat} (ht : t < N) (h : bt v t = 1) : 0 < wMk qv N v (qv t) := by
  refine Nat.pos_of_ne_zero fun e => ?_
  have := sumN_0.mp e t ht
  rw [if_pos ⟨h, rfl⟩] at this
  cases this
theorem wMk_ex {qv : Nat → Nat} {N v k : Nat} (h : 0 < wMk qv N v k) : ∃ t, t < N ∧ bt v t = 1 ∧ qv t = k := by
  refine Decidable.byContradiction fun hn => ?_
  have e : wMk qv N v k = 0 := sumN_0.mpr fun i hi => if_neg (fun g => hn ⟨i, hi, g⟩)
  omega
/-- what the entry at t gives -/
def cT (S : Sg) (n : Nat) (qv : Nat → Nat) (N v : Nat) (Q : List Pc) (t : Nat) : Nat := if bt v t = 1 then kV S n (wMk qv N v) Q (qv t) else 61
theorem cT_min {S : Sg} {n : Nat} {qv : Nat → Nat} {N v : Nat} {Q : List Pc} (hq : ∀ t, t < N → qv t < 16) : minF (cT S n qv N v Q) N = minN S (n + 1) (wMk qv N v) Q := by
  have hfk : ∀ k, 0 < wMk qv N v k → (if 0 < wMk qv N v k ∧ zF S Q (k / 2) (k % 2) ≠ -1 then minN S n (dec1 (wMk qv N v) k) (Q ++ [pcK 0 k (zF S Q (k / 2) (k % 2))]) else 61) = kV S n (wMk qv N v) Q k := fun k hk => by
    unfold kV
    by_cases h : zF S Q (k / 2) (k % 2) ≠ -1
    · rw [if_pos h]
      exact if_pos ⟨hk, h⟩
    · rw [if_neg h]
      exact if_neg (fun g => h g.2)
  refine Nat.le_antisymm ?_ (le_minF minN_le61 fun t ht => ?_)
  · refine le_minF (minF_le61 _ _) fun k hk => ?_
    by_cases hw : 0 < wMk qv N v k
    · rw [hfk k hw]
      obtain ⟨t, ht, hb, rfl⟩ := wMk_ex hw
      refine Nat.le_trans (minF_le ht) ?_
      unfold cT
      rw [if_pos hb]
      exact Nat.le_refl _
    · rw [if_neg (fun g => hw g.1)]
      exact minF_le61 _ _
  · unfold cT
    by_cases hb : bt v t = 1
    · rw [if_pos hb, ← hfk _ (wMk_pos ht hb)]
      exact minF_le (f := fun k => if 0 < wMk qv N v k ∧ zF S Q (k / 2) (k % 2) ≠ -1 then minN S n (dec1 (wMk qv N v) k) (Q ++ [pcK 0 k (zF S Q (k / 2) (k % 2))]) else 61) (hq t ht)
    · rw [if_neg hb]
      exact minN_le61
