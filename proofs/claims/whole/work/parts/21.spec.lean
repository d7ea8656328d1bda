/-! the abstract state: numbers by (field, i, j), and the list of the pieces laid -/
abbrev Sg : Type := Nat → Nat → Nat → Nat
abbrev Pc : Type := Nat × Nat × Nat × Nat × Nat × Nat
abbrev pNum (p : Pc) : Nat := p.1
abbrev pShp (p : Pc) : Nat := p.2.1
abbrev pTrn (p : Pc) : Nat := p.2.2.1
abbrev pRow (p : Pc) : Nat := p.2.2.2.1
abbrev pCol (p : Pc) : Nat := p.2.2.2.2.1
abbrev pMir (p : Pc) : Nat := p.2.2.2.2.2
abbrev wdS (S : Sg) : Nat := S 0 0 0
abbrev npS (S : Sg) : Nat := S 1 0 0
abbrev fdS (S : Sg) : Nat := S 2 0 0
abbrev srS (S : Sg) : Nat := S 3 0 0
abbrev nfS (S : Sg) : Nat := S 4 0 0
abbrev flS (S : Sg) (k : Nat) : Nat := S 5 0 k
abbrev nsS (S : Sg) : Nat := S 6 0 0
abbrev ruS (S : Sg) (j : Nat) : Nat := S 7 j 0
abbrev paS (S : Sg) (j : Nat) : Nat := S 8 j 0
abbrev drS (S : Sg) (j k : Nat) : Nat := S 9 j k
abbrev szS (S : Sg) (j : Nat) : Nat := S 10 j 0
abbrev gpS (S : Sg) (j : Nat) : Nat := S 11 j 0
abbrev mrS (S : Sg) (j : Nat) : Nat := S 12 j 0
abbrev mcS (S : Sg) (j : Nat) : Nat := S 13 j 0
abbrev stS (S : Sg) (j q : Nat) : Nat := S 14 j q
abbrev ntS (S : Sg) : Nat := S 15 0 0
abbrev ctS (S : Sg) (y j : Nat) : Nat := S 16 y j
abbrev mdS (S : Sg) (y : Nat) : Nat := S 17 y 0
abbrev rlS (S : Sg) : Nat := S 18 0 0
/-! rows of bits -/
def bitsN (f : Nat → Bool) : Nat → Nat
  | 0 => 0
  | n + 1 => bitsN f n + if f n then 2 ^ n else 0
theorem bitsN_lt (f : Nat → Bool) (n : Nat) : bitsN f n < 2 ^ n := by
  induction n with
  | zero => exact Nat.one_pos
  | succ n ih =>
    unfold bitsN
    rw [Nat.pow_succ]
    split <;> omega
theorem bitsN_tb (f : Nat → Bool) (n i : Nat) : (bitsN f n).testBit i = (decide (i < n) && f i) := by
  induction n with
  | zero => simp [bitsN]
  | succ n ih =>
    unfold bitsN
    have hlt := bitsN_lt f n
    cases hf : f n with
    | false =>
      simp only [Bool.false_eq_true, if_false, Nat.add_zero]
      rw [ih]
      by_cases h : i = n
      · subst h; simp [hf]
      · have h2 : decide (i < n) = decide (i < n + 1) := decide_eq_decide.mpr (by omega)
        rw [h2]
    | true =>
      simp only [if_true]
      rw [Nat.add_comm]
      rcases Nat.lt_trichotomy i n with h | h | h
      · rw [Nat.testBit_two_pow_add_gt h, ih]
        simp [h, Nat.lt_succ_of_lt h]
      · subst h
        rw [Nat.testBit_two_pow_add_eq, ih]
        simp [hf]
      · have hb : 2 ^ n + bitsN f n < 2 ^ i := by
          have : 2 ^ (n + 1) ≤ 2 ^ i := Nat.pow_le_pow_right (by decide) h
          rw [Nat.pow_succ] at this
          omega
        rw [Nat.testBit_lt_two_pow hb]
        have : ¬ i < n + 1 := by omega
        simp [this]
theorem bitsN_of {x : Nat} {f : Nat → Bool} {n : Nat} (h : ∀ i, x.testBit i = (decide (i < n) && f i)) : x = bitsN f n :=
  Nat.eq_of_testBit_eq fun i => by rw [h, bitsN_tb]
theorem bitsN_cg {f g : Nat → Bool} {n : Nat} (h : ∀ i, i < n → f i = g i) : bitsN f n = bitsN g n :=
  Nat.eq_of_testBit_eq fun i => by
    rw [bitsN_tb, bitsN_tb]
    by_cases hi : i < n
    · rw [h i hi]
    · simp [hi]
theorem bitsN_0 {f : Nat → Bool} {n : Nat} : bitsN f n = 0 ↔ ∀ i, i < n → f i = false := by
  constructor
  · intro h i hi
    have := bitsN_tb f n i
    rw [h, Nat.zero_testBit] at this
    simpa [hi] using this.symm
  · intro h
    refine Nat.eq_of_testBit_eq fun i => ?_
    rw [bitsN_tb, Nat.zero_testBit]
    by_cases hi : i < n
    · simp [hi, h i hi]
    · simp [hi]
def lst5 (f : Nat → Bool) : Nat := if f 0 then 0 else if f 1 then 1 else if f 2 then 2 else if f 3 then 3 else if f 4 then 4 else 5
def end5 (f : Nat → Bool) : Nat := if f 4 then 5 else if f 3 then 4 else if f 2 then 3 else if f 1 then 2 else if f 0 then 1 else 0
theorem fstB_bits (f : Nat → Bool) : fstB (bitsN f 5) = lst5 f := by simp only [fstB, lst5, bitsN_tb]; rfl
theorem endB_bits (f : Nat → Bool) : endB (bitsN f 5) = end5 f := by simp only [endB, end5, bitsN_tb]; rfl
theorem lst5_le (f : Nat → Bool) : lst5 f ≤ 5 := by unfold lst5; (repeat' split) <;> omega
theorem end5_le (f : Nat → Bool) : end5 f ≤ 5 := by unfold end5; (repeat' split) <;> omega
theorem lst5_no {f : Nat → Bool} {i : Nat} (h : i < lst5 f) : f i = false := by
  unfold lst5 at h
  have h5 : i = 0 ∨ i = 1 ∨ i = 2 ∨ i = 3 ∨ i = 4 := by
    (repeat' split at h) <;> omega
  rcases h5 with rfl | rfl | rfl | rfl | rfl <;> (repeat' split at h) <;> simp_all
theorem lst5_yes {f : Nat → Bool} (h : lst5 f < 5) : f (lst5 f) = true := by
  unfold lst5 at h ⊢
  (repeat' split) <;> simp_all
theorem end5_no {f : Nat → Bool} {i : Nat} (h : end5 f ≤ i) (hi : i < 5) : f i = false := by
  unfold end5 at h
  have h5 : i = 0 ∨ i = 1 ∨ i = 2 ∨ i = 3 ∨ i = 4 := by omega
  rcases h5 with rfl | rfl | rfl | rfl | rfl <;> (repeat' split at h) <;> simp_all
theorem end5_yes {f : Nat → Bool} (h : 0 < end5 f) : f (end5 f - 1) = true := by
  unfold end5 at h ⊢
  (repeat' split) <;> simp_all
theorem lst5_min {f : Nat → Bool} {i : Nat} (h : f i = true) : lst5 f ≤ i := by
  rcases Nat.lt_or_ge i (lst5 f) with q | q
  · rw [lst5_no q] at h; cases h
  · exact q
theorem end5_max {f : Nat → Bool} {i : Nat} (hi : i < 5) (h : f i = true) : i < end5 f := by
  rcases Nat.lt_or_ge i (end5 f) with q | q
  · exact q
  · rw [end5_no q hi] at h; cases h
/-! the cells of a shape as they lie -/
def tR (t mi k : Nat) : Nat := if t = 0 then k / 5 else if t = 1 then (if mi = 1 then 4 - k % 5 else k % 5) else if t = 2 then 4 - k / 5 else 4 - (if mi = 1 then 4 - k % 5 else k % 5)
def tC (t mi k : Nat) : Nat := if t = 0 then (if mi = 1 then 4 - k % 5 else k % 5) else if t = 1 then 4 - k / 5 else if t = 2 then 4 - (if mi = 1 then 4 - k % 5 else k % 5) else k / 5
theorem tR_le {t mi k : Nat} (hk : k < 25) : tR t mi k ≤ 4 := by unfold tR; (repeat' split) <;> omega
theorem tC_le {t mi k : Nat} (hk : k < 25) : tC t mi k ≤ 4 := by unfold tC; (repeat' split) <;> omega
theorem tRC_inj {t mi k k' : Nat} (hk : k < 25) (hk' : k' < 25) (h1 : tR t mi k = tR t mi k') (h2 : tC t mi k = tC t mi k') : k = k' := by
  unfold tR at h1
  unfold tC at h2
  (repeat' split at h1) <;> (repeat' split at h2) <;> omega
def rowB (d : Nat → Bool) (t mi r : Nat) : Bool := (List.range 25).any fun k => d k && tR t mi k == r
def colB (d : Nat → Bool) (t mi c : Nat) : Bool := (List.range 25).any fun k => d k && tC t mi k == c
def topS (d : Nat → Bool) (t mi : Nat) : Nat := lst5 (rowB d t mi)
def leftS (d : Nat → Bool) (t mi : Nat) : Nat := lst5 (colB d t mi)
def nc (d : Nat → Bool) (t mi r c : Nat) : Bool := (List.range 25).any fun k => d k && tR t mi k == r + topS d t mi && tC t mi k == c + leftS d t mi
def hgt (d : Nat → Bool) (t mi : Nat) : Int := (end5 (rowB d t mi) : Int) - topS d t mi
def wid (d : Nat → Bool) (t mi : Nat) : Int := (end5 (colB d t mi) : Int) - leftS d t mi
theorem rowB_iff {d : Nat → Bool} {t mi r : Nat} : rowB d t mi r = true ↔ ∃ k, k < 25 ∧ d k = true ∧ tR t mi k = r := by
  simp [rowB, List.any_eq_true]
theorem colB_iff {d : Nat → Bool} {t mi r : Nat} : colB d t mi r = true ↔ ∃ k, k < 25 ∧ d k = true ∧ tC t mi k = r := by
  simp [colB, List.any_eq_true]
theorem nc_iff {d : Nat → Bool} {t mi r c : Nat} : nc d t mi r c = true ↔ ∃ k, k < 25 ∧ d k = true ∧ tR t mi k = r + topS d t mi ∧ tC t mi k = c + leftS d t mi := by
  simp [nc, List.any_eq_true, and_assoc]
theorem nc_lt {d : Nat → Bool} {t mi r c : Nat} (h : nc d t mi r c = true) : r < 5 ∧ c < 5 ∧ (r : Int) < hgt d t mi ∧ (c : Int) < wid d t mi := by
  obtain ⟨k, hk, hd, h1, h2⟩ := nc_iff.mp h
  have a1 := tR_le (t := t) (mi := mi) hk
  have a2 := tC_le (t := t) (mi := mi) hk
  have b1 : tR t mi k < end5 (rowB d t mi) := end5_max (by omega) (rowB_iff.mpr ⟨k, hk, hd, rfl⟩)
  have b2 : tC t mi k < end5 (colB d t mi) := end5_max (by omega) (colB_iff.mpr ⟨k, hk, hd, rfl⟩)
  unfold hgt wid
  omega
theorem d_any {d : Nat → Bool} {t mi k : Nat} (hk : k < 25) (hd : d k = true) : topS d t mi < 5 ∧ leftS d t mi < 5 ∧ 0 < end5 (rowB d t mi) ∧ 0 < end5 (colB d t mi) := by
  have a1 := tR_le (t := t) (mi := mi) hk
  have a2 := tC_le (t := t) (mi := mi) hk
  have b1 : tR t mi k < end5 (rowB d t mi) := end5_max (by omega) (rowB_iff.mpr ⟨k, hk, hd, rfl⟩)
  have b2 : tC t mi k < end5 (colB d t mi) := end5_max (by omega) (colB_iff.mpr ⟨k, hk, hd, rfl⟩)
  have c1 : topS d t mi ≤ tR t mi k := lst5_min (rowB_iff.mpr ⟨k, hk, hd, rfl⟩)
  have c2 : leftS d t mi ≤ tC t mi k := lst5_min (colB_iff.mpr ⟨k, hk, hd, rfl⟩)
  omega
theorem nc_of {d : Nat → Bool} {t mi k : Nat} (hk : k < 25) (hd : d k = true) : nc d t mi (tR t mi k - topS d t mi) (tC t mi k - leftS d t mi) = true := by
  have c1 : topS d t mi ≤ tR t mi k := lst5_min (rowB_iff.mpr ⟨k, hk, hd, rfl⟩)
  have c2 : leftS d t mi ≤ tC t mi k := lst5_min (colB_iff.mpr ⟨k, hk, hd, rfl⟩)
  exact nc_iff.mpr ⟨k, hk, hd, by omega, by omega⟩
/-- the height and the width are reached by cells -/
theorem hgt_cell {d : Nat → Bool} {t mi : Nat} (h : ∃ k, k < 25 ∧ d k = true) : ∃ r c, nc d t mi r c = true ∧ (r : Int) + 1 = hgt d t mi := by
  obtain ⟨k, hk, hd⟩ := h
  obtain ⟨-, -, h3, -⟩ := d_any (t := t) (mi := mi) hk hd
  obtain ⟨k', hk', hd', e'⟩ := rowB_iff.mp (end5_yes h3)
  have c1 : topS d t mi ≤ tR t mi k' := lst5_min (rowB_iff.mpr ⟨k', hk', hd', rfl⟩)
  exact ⟨_, _, nc_of hk' hd', by unfold hgt; omega⟩
theorem wid_cell {d : Nat → Bool} {t mi : Nat} (h : ∃ k, k < 25 ∧ d k = true) : ∃ r c, nc d t mi r c = true ∧ (c : Int) + 1 = wid d t mi := by
  obtain ⟨k, hk, hd⟩ := h
  obtain ⟨-, -, -, h3⟩ := d_any (t := t) (mi := mi) hk hd
  obtain ⟨k', hk', hd', e'⟩ := colB_iff.mp (end5_yes h3)
  have c1 : leftS d t mi ≤ tC t mi k' := lst5_min (colB_iff.mpr ⟨k', hk', hd', rfl⟩)
  exact ⟨_, _, nc_of hk' hd', by unfold wid; omega⟩
/-! the cloth and the pieces -/
def dB (S : Sg) (j k : Nat) : Bool := decide (drS S j k ≠ 0)
def cv (S : Sg) (p : Pc) (r c : Nat) : Bool := decide (pRow p ≤ r) && decide (pCol p ≤ c) && nc (dB S (pShp p)) (pTrn p) (pMir p) (r - pRow p) (c - pCol p)
theorem cv_iff {S : Sg} {p : Pc} {r c : Nat} : cv S p r c = true ↔ ∃ r' c', r = pRow p + r' ∧ c = pCol p + c' ∧ nc (dB S (pShp p)) (pTrn p) (pMir p) r' c' = true := by
  unfold cv
  simp only [Bool.and_eq_true, decide_eq_true_iff]
  constructor
  · rintro ⟨⟨h1, h2⟩, h3⟩
    exact ⟨_, _, by omega, by omega, h3⟩
  · rintro ⟨r', c', rfl, rfl, h3⟩
    refine ⟨⟨by omega, by omega⟩, ?_⟩
    rw [Nat.add_sub_cancel_left, Nat.add_sub_cancel_left]
    exact h3
def clo (S : Sg) (P : List Pc) (k : Nat) : Int := match P.find? (fun p => cv S p (k / 12) (k % 12)) with
  | some p => (pNum p : Int)
  | none => -1
def colsS (S : Sg) : Nat := if fdS S = 1 then wdS S / 2 else wdS S
def badS (S : Sg) (r c : Nat) : Bool := decide (flS S (12 * r + c) ≠ 0) || (decide (fdS S = 1) && decide (c < wdS S) && decide (flS S (12 * r + (wdS S - 1 - c)) ≠ 0))
abbrev mayT (S : Sg) (j t : Nat) : Prop := t = 0 ∨ npS S = 0 ∧ (ruS S j = 113 ∨ ruS S j = 104 ∧ t = 2)
def mkR (S : Sg) (j t mi : Nat) : Int := (tR t mi (5 * mrS S j + mcS S j) : Int) - topS (dB S j) t mi
def remS (S : Sg) (z : Int) : Int := if 2 ≤ srS S then z % (srS S : Int) else 0
def remP (S : Sg) (p : Pc) : Int := remS S ((pRow p : Int) + mkR S (pShp p) (pTrn p) (pMir p))
def inGr (S : Sg) (P : List Pc) (g : Nat) : Nat := P.countP fun p => gpS S (pShp p) == g
def anyC (d : Nat → Bool) (t mi : Nat) (f : Nat → Nat → Bool) : Bool := (List.range 5).any fun r => (List.range 5).any fun c => nc d t mi r c && f r c
theorem anyC_iff {d : Nat → Bool} {t mi : Nat} {f : Nat → Nat → Bool} : anyC d t mi f = true ↔ ∃ r c, nc d t mi r c = true ∧ f r c = true := by
  unfold anyC
  simp only [List.any_eq_true, List.mem_range, Bool.and_eq_true]
  constructor
  · rintro ⟨r, -, c, -, h1, h2⟩
    exact ⟨r, c, h1, h2⟩
  · rintro ⟨r, c, h1, h2⟩
    have h := nc_lt h1
    exact ⟨r, h.1, c, h.2.1, h1, h2⟩
abbrev offS (S : Sg) (j t mi : Nat) (row col : Int) : Prop := ¬ ((0 ≤ row ∧ row + hgt (dB S j) t mi ≤ 60) ∧ 0 ≤ col ∧ col + wid (dB S j) t mi ≤ colsS S)
def strp (S : Sg) (P : List Pc) (j t mi : Nat) (row : Int) : Bool := decide (gpS S j ≠ 0) && decide (2 ≤ srS S) && P.any fun p => gpS S (pShp p) == gpS S j && !(remP S p == remS S (row + mkR S j t mi))
def reasonS (S : Sg) (P : List Pc) (j t mi : Nat) (row col : Int) : Int :=
  if szS S j = 0 then 101 else
  if ¬ mayT S j t then 116 else
  if mi = 1 ∧ (paS S j = 0 ∨ fdS S = 1) then 109 else
  if offS S j t mi row col then 111 else
  if anyC (dB S j) t mi (fun r c => badS S (row.toNat + r) (col.toNat + c)) then 102 else
  if anyC (dB S j) t mi (fun r c => decide (clo S P (12 * (row.toNat + r) + (col.toNat + c)) ≠ -1)) then 112 else
  if strp S P j t mi row then 115 else 45
def sumN (f : Nat → Nat) : Nat → Nat
  | 0 => 0
  | n + 1 => sumN f n + f n
def pppS (S : Sg) (j : Nat) : Nat := if paS S j = 1 then 2 else 1
def garS (S : Sg) (j : Nat) : Nat := sumN (fun y => mdS S y * (ctS S y j * pppS S j)) 4
def eS (S : Sg) (j : Nat) : Nat := stS S j 0 + stS S j 1 + garS S j
def cutS (S : Sg) : Nat := sumN (eS S) (nsS S)
def lenF (f : Nat → Bool) : Nat → Nat
  | 0 => 0
  | n + 1 => if f n then n + 1 else lenF f n
def anyRow (S : Sg) (P : List Pc) (r : Nat) : Bool := (List.range 12).any fun c => decide (clo S P (12 * r + c) ≠ -1)
def lenR (S : Sg) (P : List Pc) : Nat := lenF (anyRow S P) 60
def slotS (P : List Pc) (z : Int) : Option Nat := P.findIdx? fun p => decide ((pNum p : Int) = z)
def usedS (S : Sg) (P : List Pc) : Nat := (P.map fun p => szS S (pShp p)).sum
/-- what holds of the pieces of a marker -/
def PInv (S : Sg) (P : List Pc) (nx : Nat) : Prop :=
  (∀ p ∈ P, pShp p < nsS S ∧ 0 < szS S (pShp p) ∧ pTrn p < 4 ∧ pMir p ≤ 1 ∧ (fdS S = 1 → pMir p = 0) ∧ pNum p < nx ∧ ((pRow p : Int) + hgt (dB S (pShp p)) (pTrn p) (pMir p) ≤ 60) ∧ ((pCol p : Int) + wid (dB S (pShp p)) (pTrn p) (pMir p) ≤ colsS S)) ∧
  P.Pairwise (fun p q => pNum p < pNum q ∧ ∀ r c, ¬ (cv S p r c = true ∧ cv S q r c = true)) ∧
  ∀ p ∈ P, ∀ q ∈ P, gpS S (pShp p) = gpS S (pShp q) → gpS S (pShp p) ≠ 0 → 2 ≤ srS S → remP S p = remP S q
