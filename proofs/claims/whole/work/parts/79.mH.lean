/-! floats: what is no NaN -/
def fg32 (d : Jvm.FP.Core.Datum) : Prop := match d with
  | .nan => False
  | .inf _ => True
  | .fin _ c q => c < 2 ^ 24 ∧ q ≤ Jvm.FP.Core.Fmt.qmax Jvm.FP.Core.b32
theorem rr_fg32 (s : Bool) (a b : Nat) (e : Int) : fg32 (Jvm.FP.Core.roundRatio Jvm.FP.Core.b32 s a b e) := by
  unfold Jvm.FP.Core.roundRatio
  split
  · exact ⟨by decide, by decide⟩
  · unfold Jvm.FP.Core.roundAt Jvm.FP.Core.settle Jvm.FP.Core.bound
    split
    · rename_i h
      split
      · rename_i h2
        exact ⟨h, h2⟩
      · trivial
    · split
      · rename_i h2
        exact ⟨by decide, h2⟩
      · trivial
theorem rnd_fg32 {d : Jvm.FP.Core.Datum} (h : d ≠ .nan) : fg32 (Jvm.FP.Core.round Jvm.FP.Core.b32 d) := by
  cases d with
  | nan => exact absurd rfl h
  | inf s => trivial
  | fin s c q => exact rr_fg32 _ _ _ _
theorem enc_lo32 {d : Jvm.FP.Core.Datum} (h : fg32 d) : ∃ s n : Nat, s ≤ 1 ∧ n ≤ 2139095040 ∧ Jvm.FP.Core.encode Jvm.FP.Core.b32 d = s * 2147483648 + n := by
  cases d with
  | nan => exact absurd h id
  | inf s => exact ⟨s.toNat, 2139095040, by cases s <;> decide, Nat.le_refl _, by cases s <;> decide⟩
  | fin s c q =>
    obtain ⟨h1, h2⟩ := h
    have e1 : Jvm.FP.Core.Fmt.tails Jvm.FP.Core.b32 = 8388608 := by decide
    have e2 : Jvm.FP.Core.Fmt.exps Jvm.FP.Core.b32 = 256 := by decide
    have e3 : Jvm.FP.Core.Fmt.qmax Jvm.FP.Core.b32 = 104 := by decide
    have e4 : Jvm.FP.Core.Fmt.qmin Jvm.FP.Core.b32 = -149 := by decide
    rw [e3] at h2
    refine ⟨s.toNat, if c < 8388608 then c else ((q - (-149)).toNat + 1) * 8388608 + (c - 8388608), by cases s <;> decide, ?_, ?_⟩
    · split <;> omega
    · show (if c < Jvm.FP.Core.Fmt.tails Jvm.FP.Core.b32 then _ else _) = _
      rw [e1]
      by_cases hc : c < 8388608
      · rw [if_pos hc, if_pos hc]
        unfold Jvm.FP.Core.assemble
        rw [e1, e2]
        omega
      · rw [if_neg hc, if_neg hc]
        unfold Jvm.FP.Core.assemble
        rw [e1, e2, e4]
        omega
theorem vf32_of {d : Jvm.FP.Core.Datum} (h : fg32 d) : vf_n32 (.ofNat (Jvm.FP.Core.encode Jvm.FP.Core.b32 d)) := by
  obtain ⟨s, n, h1, h2, h3⟩ := enc_lo32 h
  unfold vf_n32
  rw [UInt32.le_iff_toNat_le, UInt32.toNat_and, h3, UInt32.toNat_ofNat_of_lt' (show s * 2147483648 + n < 4294967296 by omega)]
  show (s * 2147483648 + n) &&& (2 ^ 31 - 1) ≤ 2139095040
  rw [Nat.and_two_pow_sub_one_eq_mod]
  omega
theorem vf32_dec {r : UInt32} (h : vf_n32 r) : Jvm.FP.Core.decode Jvm.FP.Core.b32 r.toNat ≠ .nan := by
  unfold vf_n32 at h
  rw [UInt32.le_iff_toNat_le, UInt32.toNat_and] at h
  have h' : r.toNat &&& (2 ^ 31 - 1) ≤ 2139095040 := h
  rw [Nat.and_two_pow_sub_one_eq_mod] at h'
  have hr := r.toNat_lt
  intro q
  unfold Jvm.FP.Core.decode at q
  split at q
  · rename_i e1
    have e1' : r.toNat / 8388608 % 256 = 255 := e1
    split at q
    · cases q
    · rename_i e2
      have e2' : ¬ r.toNat % 8388608 = 0 := e2
      omega
  · split at q <;> cases q

def fg64 (d : Jvm.FP.Core.Datum) : Prop := match d with
  | .nan => False
  | .inf _ => True
  | .fin _ c q => c < 2 ^ 53 ∧ q ≤ Jvm.FP.Core.Fmt.qmax Jvm.FP.Core.b64
theorem rr_fg64 (s : Bool) (a b : Nat) (e : Int) : fg64 (Jvm.FP.Core.roundRatio Jvm.FP.Core.b64 s a b e) := by
  unfold Jvm.FP.Core.roundRatio
  split
  · exact ⟨by decide, by decide⟩
  · unfold Jvm.FP.Core.roundAt Jvm.FP.Core.settle Jvm.FP.Core.bound
    split
    · rename_i h
      split
      · rename_i h2
        exact ⟨h, h2⟩
      · trivial
    · split
      · rename_i h2
        exact ⟨by decide, h2⟩
      · trivial
theorem rnd_fg64 {d : Jvm.FP.Core.Datum} (h : d ≠ .nan) : fg64 (Jvm.FP.Core.round Jvm.FP.Core.b64 d) := by
  cases d with
  | nan => exact absurd rfl h
  | inf s => trivial
  | fin s c q => exact rr_fg64 _ _ _ _
theorem enc_lo64 {d : Jvm.FP.Core.Datum} (h : fg64 d) : ∃ s n : Nat, s ≤ 1 ∧ n ≤ 9218868437227405312 ∧ Jvm.FP.Core.encode Jvm.FP.Core.b64 d = s * 9223372036854775808 + n := by
  cases d with
  | nan => exact absurd h id
  | inf s => exact ⟨s.toNat, 9218868437227405312, by cases s <;> decide, Nat.le_refl _, by cases s <;> decide⟩
  | fin s c q =>
    obtain ⟨h1, h2⟩ := h
    have e1 : Jvm.FP.Core.Fmt.tails Jvm.FP.Core.b64 = 4503599627370496 := by decide
    have e2 : Jvm.FP.Core.Fmt.exps Jvm.FP.Core.b64 = 2048 := by decide
    have e3 : Jvm.FP.Core.Fmt.qmax Jvm.FP.Core.b64 = 971 := by decide
    have e4 : Jvm.FP.Core.Fmt.qmin Jvm.FP.Core.b64 = -1074 := by decide
    rw [e3] at h2
    refine ⟨s.toNat, if c < 4503599627370496 then c else ((q - (-1074)).toNat + 1) * 4503599627370496 + (c - 4503599627370496), by cases s <;> decide, ?_, ?_⟩
    · split <;> omega
    · show (if c < Jvm.FP.Core.Fmt.tails Jvm.FP.Core.b64 then _ else _) = _
      rw [e1]
      by_cases hc : c < 4503599627370496
      · rw [if_pos hc, if_pos hc]
        unfold Jvm.FP.Core.assemble
        rw [e1, e2]
        omega
      · rw [if_neg hc, if_neg hc]
        unfold Jvm.FP.Core.assemble
        rw [e1, e2, e4]
        omega
theorem vf64_of {d : Jvm.FP.Core.Datum} (h : fg64 d) : vf_n64 (.ofNat (Jvm.FP.Core.encode Jvm.FP.Core.b64 d)) := by
  obtain ⟨s, n, h1, h2, h3⟩ := enc_lo64 h
  unfold vf_n64
  rw [UInt64.le_iff_toNat_le, UInt64.toNat_and, h3, UInt64.toNat_ofNat_of_lt' (show s * 9223372036854775808 + n < 18446744073709551616 by omega)]
  show (s * 9223372036854775808 + n) &&& (2 ^ 63 - 1) ≤ 9218868437227405312
  rw [Nat.and_two_pow_sub_one_eq_mod]
  omega
theorem vf64_dec {r : UInt64} (h : vf_n64 r) : Jvm.FP.Core.decode Jvm.FP.Core.b64 r.toNat ≠ .nan := by
  unfold vf_n64 at h
  rw [UInt64.le_iff_toNat_le, UInt64.toNat_and] at h
  have h' : r.toNat &&& (2 ^ 63 - 1) ≤ 9218868437227405312 := h
  rw [Nat.and_two_pow_sub_one_eq_mod] at h'
  have hr := r.toNat_lt
  intro q
  unfold Jvm.FP.Core.decode at q
  split at q
  · rename_i e1
    have e1' : r.toNat / 4503599627370496 % 2048 = 2047 := e1
    split at q
    · cases q
    · rename_i e2
      have e2' : ¬ r.toNat % 4503599627370496 = 0 := e2
      omega
  · split at q <;> cases q

def isFin (d : Jvm.FP.Core.Datum) : Bool := match d with
  | .fin _ c _ => true
  | _ => false
def isPos (d : Jvm.FP.Core.Datum) : Bool := match d with
  | .fin _ c _ => decide (c ≠ 0)
  | _ => false
theorem quo_rr (f : Jvm.FP.Core.Fmt) {x y : Jvm.FP.Core.Datum} (hx : isFin x = true) (hy : isPos y = true) : ∃ s a b e, Jvm.FP.Core.quotient f x y = Jvm.FP.Core.roundRatio f s a b e := by
  cases x with
  | nan => cases hx
  | inf s => cases hx
  | fin s c q =>
    cases y with
    | nan => cases hy
    | inf s => cases hy
    | fin t d r =>
      have hd : d ≠ 0 := of_decide_eq_true hy
      exact ⟨_, _, _, _, if_neg hd⟩
set_option maxRecDepth 100000 in
theorem i2f_ok : ∀ n, n < 1001 → isFin (Jvm.FP.Core.decode Jvm.FP.Core.b32 (FP.i2f (Int32.ofInt (n : Nat))).toNat) = true ∧ (n ≠ 0 → isPos (Jvm.FP.Core.decode Jvm.FP.Core.b32 (FP.i2f (Int32.ofInt (n : Nat))).toNat) = true) := by decide +kernel
set_option maxRecDepth 100000 in
theorem i2d_ok : ∀ n, n < 1001 → isFin (Jvm.FP.Core.decode Jvm.FP.Core.b64 (FP.i2d (Int32.ofInt (n : Nat))).toNat) = true ∧ (n ≠ 0 → isPos (Jvm.FP.Core.decode Jvm.FP.Core.b64 (FP.i2d (Int32.ofInt (n : Nat))).toNat) = true) := by decide +kernel
def dnF (a b : Nat) : UInt32 := FP.fdiv (FP.i2f (Int32.ofInt (a : Nat))) (FP.i2f (Int32.ofInt (b : Nat)))
def mnD (a b : Nat) : UInt64 := FP.ddiv (FP.i2d (Int32.ofInt (a : Nat))) (FP.i2d (Int32.ofInt (b : Nat)))
theorem dnF_no {a b : Nat} (ha : a ≤ 1000) (hb : b ≤ 1000) (h0 : b ≠ 0) : vf_n32 (dnF a b) := by
  obtain ⟨s, x, y, e, h⟩ := quo_rr Jvm.FP.Core.b32 (i2f_ok a (by omega)).1 ((i2f_ok b (by omega)).2 h0)
  show vf_n32 (.ofNat (Jvm.FP.Core.encode Jvm.FP.Core.b32 (Jvm.FP.Core.quotient Jvm.FP.Core.b32 _ _)))
  rw [h]
  exact vf32_of (rr_fg32 _ _ _ _)
theorem mnD_no {a b : Nat} (ha : a ≤ 1000) (hb : b ≤ 1000) (h0 : b ≠ 0) : vf_n64 (mnD a b) := by
  obtain ⟨s, x, y, e, h⟩ := quo_rr Jvm.FP.Core.b64 (i2d_ok a (by omega)).1 ((i2d_ok b (by omega)).2 h0)
  show vf_n64 (.ofNat (Jvm.FP.Core.encode Jvm.FP.Core.b64 (Jvm.FP.Core.quotient Jvm.FP.Core.b64 _ _)))
  rw [h]
  exact vf64_of (rr_fg64 _ _ _ _)
theorem f2d_no {r : UInt32} (hr : vf_n32 r) : vf_n64 (FP.f2d r) := by
  have h := vf32_dec hr
  have e : FP.f2d r = Jvm.FP.Core.f2d r := by
    show (if Jvm.FP.Core.fIsNaN r then _ else _) = _
    rw [if_neg]
    intro q
    exact h (of_decide_eq_true q)
  rw [e]
  show vf_n64 (.ofNat (Jvm.FP.Core.encode Jvm.FP.Core.b64 (Jvm.FP.Core.round Jvm.FP.Core.b64 (Jvm.FP.Core.decode Jvm.FP.Core.b32 r.toNat))))
  exact vf64_of (rnd_fg64 h)
/-- a double that is no NaN is equal to itself -/
theorem dcmp_self {r : UInt64} (hr : vf_n64 r) : FP.dcmp r r = some .eq := by
  have h := vf64_dec hr
  show Jvm.FP.Core.order (Jvm.FP.Core.decode Jvm.FP.Core.b64 r.toNat) (Jvm.FP.Core.decode Jvm.FP.Core.b64 r.toNat) = some .eq
  cases hd : Jvm.FP.Core.decode Jvm.FP.Core.b64 r.toNat with
  | nan => exact absurd hd h
  | inf s => cases s <;> decide
  | fin s c q =>
    exact congrArg some (Int.compare_eq_eq.mpr rfl)
