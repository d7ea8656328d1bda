-- MODEL
/-! the model: what hinders a piece -/
def InvC (S : Sg) : Prop := ∀ j, szS S j = (List.range 25).countP (fun k => dB S j k)
theorem InvC.ex {S : Sg} (hC : InvC S) {j : Nat} (h : szS S j ≠ 0) : ∃ k, k < 25 ∧ dB S j k = true := by
  rw [hC j] at h
  have h2 : 0 < (List.range 25).countP (fun k => dB S j k) := by omega
  obtain ⟨k, hk, hd⟩ := List.countP_pos_iff.mp h2
  exact ⟨k, List.mem_range.mp hk, hd⟩
def itC (S : Sg) (P : List Pc) (u v : Nat) : Nat := if 60 ≤ u ∨ colsS S ≤ v then 3 else if badS S u v = true then 2 else if clo S P (12 * u + v) ≠ -1 then 1 else 0
def wsC (S : Sg) (P : List Pc) (row col : Nat) (A : List (Nat × Nat)) : Nat := A.foldl (fun m p => max m (itC S P (row + p.1) (col + p.2))) 0
theorem itC_3 (S : Sg) (P : List Pc) (u v : Nat) : itC S P u v ≤ 3 := by
  unfold itC
  (repeat' split) <;> omega
theorem wsC_app (S : Sg) (P : List Pc) (row col : Nat) (A : List (Nat × Nat)) (p : Nat × Nat) : wsC S P row col (A ++ [p]) = max (wsC S P row col A) (itC S P (row + p.1) (col + p.2)) := by
  unfold wsC
  rw [List.foldl_append]
  rfl
theorem fold_ge (f : Nat × Nat → Nat) (q : Nat) : ∀ (A : List (Nat × Nat)) (m : Nat), q ≤ A.foldl (fun m p => max m (f p)) m ↔ q ≤ m ∨ ∃ p ∈ A, q ≤ f p
  | [], m => by simp
  | a :: A, m => by
    have e9 : q ≤ max m (f a) ↔ q ≤ m ∨ q ≤ f a := by omega
    rw [List.foldl_cons, fold_ge f q A, e9]
    constructor
    · rintro ((h | h) | ⟨p, hp, h⟩)
      · exact Or.inl h
      · exact Or.inr ⟨a, List.mem_cons_self, h⟩
      · exact Or.inr ⟨p, List.mem_cons_of_mem _ hp, h⟩
    · rintro (h | ⟨p, hp, h⟩)
      · exact Or.inl (Or.inl h)
      · rcases List.mem_cons.mp hp with e | e
        · rw [e] at h
          exact Or.inl (Or.inr h)
        · exact Or.inr ⟨p, e, h⟩
theorem wsC_ge {S : Sg} {P : List Pc} {row col q : Nat} (hq : 0 < q) (A : List (Nat × Nat)) : q ≤ wsC S P row col A ↔ ∃ p ∈ A, q ≤ itC S P (row + p.1) (col + p.2) := by
  unfold wsC
  rw [fold_ge (fun p => itC S P (row + p.1) (col + p.2)) q A 0]
  constructor
  · rintro (h | h)
    · omega
    · exact h
  · exact Or.inr
theorem wsC_3 (S : Sg) (P : List Pc) (row col : Nat) (A : List (Nat × Nat)) : wsC S P row col A ≤ 3 := by
  rcases Nat.lt_or_ge 3 (wsC S P row col A) with h | h
  · obtain ⟨p, -, h2⟩ := (wsC_ge (q := 4) (by omega) A).mp h
    have := itC_3 S P (row + p.1) (col + p.2)
    omega
  · exact h
def wstS (S : Sg) (P : List Pc) (j t w : Nat) (row col : Int) : Nat := if ¬ ((0 ≤ row ∧ row ≤ 59) ∧ 0 ≤ col ∧ col ≤ (colsS S : Int) - 1) then 3 else wsC S P row.toNat col.toNat (cl (dB S j) t w)
/-- what the worst of the cells says, against the reasons -/
theorem wst_off {S : Sg} {P : List Pc} {j t w : Nat} {row col : Int} (hex : ∃ k, k < 25 ∧ dB S j k = true) : wstS S P j t w row col = 3 ↔ offS S j t w row col := by
  obtain ⟨r1, c1, e1, e2⟩ := hgt_cell (d := dB S j) (t := t) (mi := w) hex
  obtain ⟨r2, c2, e3, e4⟩ := wid_cell (d := dB S j) (t := t) (mi := w) hex
  have n1 := nc_lt e1
  have n2 := nc_lt e3
  unfold wstS
  by_cases h : (0 ≤ row ∧ row ≤ 59) ∧ 0 ≤ col ∧ col ≤ (colsS S : Int) - 1
  · rw [if_neg (fun q => q h)]
    obtain ⟨u, rfl⟩ := Int.eq_ofNat_of_zero_le h.1.1
    obtain ⟨v, rfl⟩ := Int.eq_ofNat_of_zero_le h.2.1
    rw [Int.toNat_natCast, Int.toNat_natCast]
    have h3 := wsC_3 S P u v (cl (dB S j) t w)
    have hg := wsC_ge (S := S) (P := P) (row := u) (col := v) (q := 3) (by omega) (cl (dB S j) t w)
    have hi : ∀ x y, 3 ≤ itC S P x y ↔ 60 ≤ x ∨ colsS S ≤ y := fun x y => by
      unfold itC
      by_cases hx : 60 ≤ x ∨ colsS S ≤ y
      · rw [if_pos hx]
        exact ⟨fun _ => hx, fun _ => Nat.le_refl _⟩
      · rw [if_neg hx]
        refine ⟨fun q => ?_, fun q => absurd q hx⟩
        split at q
        · omega
        · split at q <;> omega
    constructor
    · intro q
      obtain ⟨p, hp, h9⟩ := hg.mp (by omega)
      have h8 := nc_lt (mem_cl.mp hp)
      have h7 := (hi _ _).mp h9
      unfold offS
      omega
    · intro q
      have : 3 ≤ wsC S P u v (cl (dB S j) t w) := by
        rcases (show (60 : Int) < u + hgt (dB S j) t w ∨ (colsS S : Int) < v + wid (dB S j) t w by unfold offS at q; omega) with z | z
        · exact hg.mpr ⟨(r1, c1), mem_cl.mpr e1, (hi _ _).mpr (Or.inl (by show 60 ≤ u + r1; omega))⟩
        · exact hg.mpr ⟨(r2, c2), mem_cl.mpr e3, (hi _ _).mpr (Or.inr (by show colsS S ≤ v + c2; omega))⟩
      omega
  · rw [if_pos h]
    refine ⟨fun _ => ?_, fun _ => rfl⟩
    unfold offS
    omega
theorem wst_in {S : Sg} {P : List Pc} {j t w : Nat} {row col : Int} (hex : ∃ k, k < 25 ∧ dB S j k = true) (ho : ¬ offS S j t w row col) : (2 ≤ wstS S P j t w row col ↔ anyC (dB S j) t w (fun r c => badS S (row.toNat + r) (col.toNat + c)) = true) ∧ (1 ≤ wstS S P j t w row col ↔ (anyC (dB S j) t w (fun r c => badS S (row.toNat + r) (col.toNat + c)) = true ∨ anyC (dB S j) t w (fun r c => decide (clo S P (12 * (row.toNat + r) + (col.toNat + c)) ≠ -1)) = true)) := by
  have h3 : wstS S P j t w row col ≠ 3 := fun q => ho ((wst_off hex).mp q)
  unfold wstS at h3 ⊢
  by_cases h : (0 ≤ row ∧ row ≤ 59) ∧ 0 ≤ col ∧ col ≤ (colsS S : Int) - 1
  · rw [if_neg (fun q => q h)] at h3 ⊢
    have hn : ∀ p ∈ cl (dB S j) t w, ¬ (60 ≤ row.toNat + p.1 ∨ colsS S ≤ col.toNat + p.2) := fun p hp q => by
      have := (wsC_ge (S := S) (P := P) (row := row.toNat) (col := col.toNat) (q := 3) (by omega) (cl (dB S j) t w)).mpr ⟨p, hp, by unfold itC; rw [if_pos q]; exact Nat.le_refl _⟩
      have := wsC_3 S P row.toNat col.toNat (cl (dB S j) t w)
      omega
    have hv : ∀ p ∈ cl (dB S j) t w, itC S P (row.toNat + p.1) (col.toNat + p.2) = if badS S (row.toNat + p.1) (col.toNat + p.2) = true then 2 else if clo S P (12 * (row.toNat + p.1) + (col.toNat + p.2)) ≠ -1 then 1 else 0 := fun p hp => by
      unfold itC
      rw [if_neg (hn p hp)]
    constructor
    · rw [wsC_ge (by omega), anyC_iff]
      constructor
      · rintro ⟨p, hp, q⟩
        rw [hv p hp] at q
        refine ⟨p.1, p.2, mem_cl.mp hp, ?_⟩
        by_cases hb : badS S (row.toNat + p.1) (col.toNat + p.2) = true
        · exact hb
        · rw [if_neg hb] at q
          split at q <;> omega
      · rintro ⟨r, c, q1, q2⟩
        refine ⟨(r, c), mem_cl.mpr q1, ?_⟩
        rw [hv (r, c) (mem_cl.mpr q1), if_pos q2]
        exact Nat.le_refl _
    · rw [wsC_ge (by omega), anyC_iff, anyC_iff]
      constructor
      · rintro ⟨p, hp, q⟩
        rw [hv p hp] at q
        by_cases hb : badS S (row.toNat + p.1) (col.toNat + p.2) = true
        · exact Or.inl ⟨p.1, p.2, mem_cl.mp hp, hb⟩
        · rw [if_neg hb] at q
          refine Or.inr ⟨p.1, p.2, mem_cl.mp hp, decide_eq_true ?_⟩
          intro z
          rw [if_neg (fun y => y z)] at q
          omega
      · rintro (⟨r, c, q1, q2⟩ | ⟨r, c, q1, q2⟩)
        · refine ⟨(r, c), mem_cl.mpr q1, ?_⟩
          rw [hv (r, c) (mem_cl.mpr q1), if_pos q2]
          decide
        · refine ⟨(r, c), mem_cl.mpr q1, ?_⟩
          rw [hv (r, c) (mem_cl.mpr q1)]
          split
          · decide
          · rw [if_pos (of_decide_eq_true q2)]
            exact Nat.le_refl _
  · rw [if_pos h] at h3
    exact absurd rfl h3
theorem tmod_adj {x y : Int} (hy : 0 < y) : (if x.tmod y < 0 then x.tmod y + y else x.tmod y) = x % y := by
  have h := Int.emod_eq_tmod (a := x) (b := y)
  have h0 := Int.emod_nonneg x (show y ≠ 0 by omega)
  have h1 := Int.emod_lt_of_pos x hy
  by_cases hx : 0 ≤ x ∨ y ∣ x
  · rw [if_pos hx] at h
    rw [if_neg (by omega)]
    omega
  · rw [if_neg hx] at h
    have : (y.natAbs : Int) = y := by omega
    rw [if_pos (by omega)]
    omega
theorem tmod_bd {x y : Int} (hy : 0 < y) : -y < x.tmod y ∧ x.tmod y < y := tmod_bounds hy
section Mo
variable {l : Launch} {b0 : Nat → Prop} {ad : Ads} {M : Mem}
theorem c_X7_mayTurn (hl : l.stackTraces = false) {S : Sg} {P : List Pc} {nx : Nat} (hG : GInv S) (hR : RepMo S P nx M) (j : Nat) (hj : j < 8) (t : Nat) (ht : t < 4) : Con l b0 yX7_mayTurn cX7_mayTurn 3 (some .boolean) 1 0 0 [aO 40 0, aI j, aI t] ad cntM M (fun r9 M' => M' = M ∧ r9 = some (aI (b2 (mayT S j t)))) noX := by
  obtain ⟨p1, p2, p3, p4, p5, p6, p7, p8, p9⟩ := hG.2.2.2.2.2.2.2.2.2.1 j
  have q1 := (hR.2.2.1 j hj).1
  have e2 := hR.1.2.1
  have g2 := hG.2.1
  refine Con.of hl pl_X7 (Nat.le_of_ble_eq_true rfl) ?_
  intro D cA p e s m args below meth c C hr
  refine w_iload_n C dX7_mayTurn_0 rfl ?_
  refine w_if_eq C dX7_mayTurn_1 (by omega) (fun h1 => ?_) (fun h1 => ?_)
  · refine w_iconst C dX7_mayTurn_38 ?_
    refine w_goto C dX7_mayTurn_39 ?_
    refine w_iret C hr dX7_mayTurn_43 (by first | exact narrow_z (b2_01 _) | exact narrow_z (by omega)) (⟨rfl, by unfold mayT; first | (rw [b2_f (by omega)]) | (rw [b2_t (by omega)])⟩) (by decide) (by decide)
  · refine w_aload_n C dX7_mayTurn_4 rfl ?_
    refine g_X7_133 C dX7_mayTurn_5 (by first | assumption | exact Nat.zero_lt_one | exact Nat.zero_lt_two | exact Nat.one_lt_two) ?_
    refine w_if_ne C dX7_mayTurn_8 (by omega) (fun h8 => ?_) (fun h8 => ?_)
    · refine w_iconst C dX7_mayTurn_42 ?_
      refine w_iret C hr dX7_mayTurn_43 (by first | exact narrow_z (b2_01 _) | exact narrow_z (by omega)) (⟨rfl, by unfold mayT; first | (rw [b2_f (by omega)]) | (rw [b2_t (by omega)])⟩) (by decide) (by decide)
    · refine w_aload_n C dX7_mayTurn_11 rfl ?_
      refine g_X7_17 C dX7_mayTurn_12 (by first | assumption | exact Nat.zero_lt_one | exact Nat.zero_lt_two | exact Nat.one_lt_two) ?_
      refine w_iload_n C dX7_mayTurn_15 rfl ?_
      refine w_caldN (j := j) C dX7_mayTurn_16 (by first | assumption | exact Nat.zero_lt_one | exact Nat.zero_lt_two | exact Nat.one_lt_two) CA_47 (by omega) (by omega) ?_
      rw [q1]
      refine w_bipush (v := 113) C dX7_mayTurn_17 rfl ?_
      refine w_icmp_eq C dX7_mayTurn_19 (by omega) (by omega) (fun h19 => ?_) (fun h19 => ?_)
      · refine w_iconst C dX7_mayTurn_38 ?_
        refine w_goto C dX7_mayTurn_39 ?_
        refine w_iret C hr dX7_mayTurn_43 (by first | exact narrow_z (b2_01 _) | exact narrow_z (by omega)) (⟨rfl, by unfold mayT; first | (rw [b2_f (by omega)]) | (rw [b2_t (by omega)])⟩) (by decide) (by decide)
      · refine w_aload_n C dX7_mayTurn_22 rfl ?_
        refine g_X7_17 C dX7_mayTurn_23 (by first | assumption | exact Nat.zero_lt_one | exact Nat.zero_lt_two | exact Nat.one_lt_two) ?_
        refine w_iload_n C dX7_mayTurn_26 rfl ?_
        refine w_caldN (j := j) C dX7_mayTurn_27 (by first | assumption | exact Nat.zero_lt_one | exact Nat.zero_lt_two | exact Nat.one_lt_two) CA_47 (by omega) (by omega) ?_
        rw [q1]
        refine w_bipush (v := 104) C dX7_mayTurn_28 rfl ?_
        refine w_icmp_ne C dX7_mayTurn_30 (by omega) (by omega) (fun h30 => ?_) (fun h30 => ?_)
        · refine w_iconst C dX7_mayTurn_42 ?_
          refine w_iret C hr dX7_mayTurn_43 (by first | exact narrow_z (b2_01 _) | exact narrow_z (by omega)) (⟨rfl, by unfold mayT; first | (rw [b2_f (by omega)]) | (rw [b2_t (by omega)])⟩) (by decide) (by decide)
        · refine w_iload_n C dX7_mayTurn_33 rfl ?_
          refine w_iconst C dX7_mayTurn_34 ?_
          refine w_icmp_ne C dX7_mayTurn_35 (by omega) (by omega) (fun h35 => ?_) (fun h35 => ?_)
          · refine w_iconst C dX7_mayTurn_42 ?_
            refine w_iret C hr dX7_mayTurn_43 (by first | exact narrow_z (b2_01 _) | exact narrow_z (by omega)) (⟨rfl, by unfold mayT; first | (rw [b2_f (by omega)]) | (rw [b2_t (by omega)])⟩) (by decide) (by decide)
          · refine w_iconst C dX7_mayTurn_38 ?_
            refine w_goto C dX7_mayTurn_39 ?_
            refine w_iret C hr dX7_mayTurn_43 (by first | exact narrow_z (b2_01 _) | exact narrow_z (by omega)) (⟨rfl, by unfold mayT; first | (rw [b2_f (by omega)]) | (rw [b2_t (by omega)])⟩) (by decide) (by decide)
theorem c_X7_isMarked (hl : l.stackTraces = false) {S : Sg} {P : List Pc} {nx : Nat} (hG : GInv S) (hR : RepMo S P nx M) (j : Nat) (hj : j < 8) : Con l b0 yX7_isMarked cX7_isMarked 2 (some .boolean) 1 0 0 [aO 40 0, aI j] ad cntM M (fun r9 M' => M' = M ∧ r9 = some (aI (b2 (gpS S j ≠ 0 ∧ 2 ≤ srS S)))) noX := by
  obtain ⟨p1, p2, p3, p4, p5, p6, p7, p8, p9⟩ := hG.2.2.2.2.2.2.2.2.2.1 j
  have q1 := (hR.2.2.1 j hj).2.2.2.1
  have e2 := hR.1.2.2.2.1
  have g2 := hG.2.2.2.1
  refine Con.of hl pl_X7 (Nat.le_of_ble_eq_true rfl) ?_
  intro D cA p e s m args below meth c C hr
  refine w_aload_n C dX7_isMarked_0 rfl ?_
  refine g_X7_31 C dX7_isMarked_1 (by first | assumption | exact Nat.zero_lt_one | exact Nat.zero_lt_two | exact Nat.one_lt_two) ?_
  refine w_iload_n C dX7_isMarked_4 rfl ?_
  refine w_ialdN (j := j) C dX7_isMarked_5 (by first | assumption | exact Nat.zero_lt_one | exact Nat.zero_lt_two | exact Nat.one_lt_two) IA_49 (by omega) (by omega) ?_
  rw [q1]
  refine w_iconst C dX7_isMarked_6 ?_
  refine w_icmp_eq C dX7_isMarked_7 (by omega) (by omega) (fun h7 => ?_) (fun h7 => ?_)
  · refine w_iconst C dX7_isMarked_22 ?_
    refine w_iret C hr dX7_isMarked_23 (by first | exact narrow_z (b2_01 _) | exact narrow_z (by omega)) (⟨rfl, by first | (rw [b2_f (by omega)]) | (rw [b2_t (by omega)])⟩) (by decide) (by decide)
  · refine w_aload_n C dX7_isMarked_10 rfl ?_
    refine g_X7_136 C dX7_isMarked_11 (by first | assumption | exact Nat.zero_lt_one | exact Nat.zero_lt_two | exact Nat.one_lt_two) ?_
    refine w_iconst C dX7_isMarked_14 ?_
    refine w_icmp_le C dX7_isMarked_15 (by omega) (by omega) (fun h15 => ?_) (fun h15 => ?_)
    · refine w_iconst C dX7_isMarked_22 ?_
      refine w_iret C hr dX7_isMarked_23 (by first | exact narrow_z (b2_01 _) | exact narrow_z (by omega)) (⟨rfl, by first | (rw [b2_f (by omega)]) | (rw [b2_t (by omega)])⟩) (by decide) (by decide)
    · refine w_iconst C dX7_isMarked_18 ?_
      refine w_goto C dX7_isMarked_19 ?_
      refine w_iret C hr dX7_isMarked_23 (by first | exact narrow_z (b2_01 _) | exact narrow_z (by omega)) (⟨rfl, by first | (rw [b2_f (by omega)]) | (rw [b2_t (by omega)])⟩) (by decide) (by decide)
theorem c_X7_remainder (hl : l.stackTraces = false) {S : Sg} (hG : GInv S) (e4 : M.1 40 0 4 = srS S) (h2 : 2 ≤ srS S) (b : Int) (hb : -5 ≤ b ∧ b ≤ 4) (e36 : M.1 40 0 36 = b) (a : Int) (ha : -100000 ≤ a ∧ a ≤ 100000) : Con l b0 yX7_remainder cX7_remainder 3 (some .int) 1 0 0 [aO 40 0, aI a] ad cntM M (fun r9 M' => M' = M ∧ r9 = some (aI (remS S (a + b)))) noX := by
  have g2 := hG.2.2.2.1
  have er : remS S (a + b) = (if (a + b).tmod (srS S : Int) < 0 then (a + b).tmod (srS S : Int) + srS S else (a + b).tmod (srS S : Int)) := by
    unfold remS
    rw [if_pos h2, tmod_adj (by omega)]
  have hbd := tmod_bd (x := a + b) (y := (srS S : Int)) (by omega)
  refine Con.of hl pl_X7 (Nat.le_of_ble_eq_true rfl) ?_
  intro D cA p e s m args below meth c C hr
  refine w_iload_n C dX7_remainder_0 rfl ?_
  refine w_aload_n C dX7_remainder_1 rfl ?_
  refine g_X7_162 C dX7_remainder_2 (by first | assumption | exact Nat.zero_lt_one | exact Nat.zero_lt_two | exact Nat.one_lt_two) ?_
  refine w_iadd C dX7_remainder_5 ?_
  refine w_aload_n C dX7_remainder_6 rfl ?_
  refine g_X7_136 C dX7_remainder_7 (by first | assumption | exact Nat.zero_lt_one | exact Nat.zero_lt_two | exact Nat.one_lt_two) ?_
  refine w_iremA C dX7_remainder_10 (by omega) (by omega) ?_
  rw [e36, e4]
  refine w_istore_n C dX7_remainder_11 (by decide) ?_
  refine w_iload_n C dX7_remainder_12 rfl ?_
  refine w_if_ge C dX7_remainder_13 (by omega) (fun h13 => ?_) (fun h13 => ?_)
  · refine w_iload_n C dX7_remainder_25 rfl ?_
    refine w_iret C hr dX7_remainder_26 rfl (⟨rfl, congrArg (fun z : Int => some (aI z)) (by rw [er]; first | (rw [if_pos (by omega), e4]) | (rw [if_neg (by omega)]))⟩) (by decide) (by decide)
  · refine w_iload_n C dX7_remainder_16 rfl ?_
    refine w_aload_n C dX7_remainder_17 rfl ?_
    refine g_X7_136 C dX7_remainder_18 (by first | assumption | exact Nat.zero_lt_one | exact Nat.zero_lt_two | exact Nat.one_lt_two) ?_
    refine w_iadd C dX7_remainder_21 ?_
    refine w_goto C dX7_remainder_22 ?_
    refine w_iret C hr dX7_remainder_26 rfl (⟨rfl, congrArg (fun z : Int => some (aI z)) (by rw [er]; first | (rw [if_pos (by omega), e4]) | (rw [if_neg (by omega)]))⟩) (by decide) (by decide)
theorem c_X7_worst (hl : l.stackTraces = false) {S : Sg} {P : List Pc} {nx : Nat} (hI : Inv S P nx) (hnx : nx < 1000000) (hR : RepMo S P nx M) (j : Nat) (t w : Nat) (hT : CelM S j t w M) (a b : Int) (ha : -2147483648 ≤ a ∧ a ≤ 2147483647) (hb : -2147483648 ≤ b ∧ b ≤ 2147483647) : Con l b0 yX7_worst cX7_worst 8 (some .int) 2 0 0 [aO 40 0, aI a, aI b] ad cntM M (fun r9 M' => M' = M ∧ r9 = some (aI (wstS S P j t w a b : Nat))) noX := by
  have hcs := cols12 hI.1
  have hwd := hI.1.1
  have hcw : colsS S ≤ wdS S := by
    unfold colsS
    split <;> omega
  have b1 := b2_01 (0 ≤ a ∧ a ≤ 59)
  have b3 := b2_01 (0 ≤ b ∧ b ≤ (colsS S : Int) - 1)
  have hlen := CelM.le (S := S) (j := j) (t := t) (w := w)
  refine Con.of hl pl_X7 (Nat.le_of_ble_eq_true rfl) ?_
  intro D cA p e s m args below meth c C hr
  have L : ∀ (u v : Nat), a = (u : Int) → b = (v : Int) → u ≤ 59 → (v : Int) ≤ (colsS S : Int) - 1 → ∀ (d n : Nat) (A B : List (Nat × Nat)), cl (dB S j) t w = A ++ B → A.length = n → B.length = d → Wm p l e (rmd 2 0 0) s m args below meth c 8 D cA b0 0 0 (vx_MQ below (mQ D cA b0 ad cntM (fun r9 M' => M' = M ∧ r9 = some (aI (wstS S P j t w a b : Nat)))) (mX D cA b0 ad cntM noX) args s 0 0 b0) 31 [(0, aO 40 0), (1, aI u), (2, aI v), (3, aI (wsC S P u v A : Nat)), (4, aI n)] [] ad cntM M := by
    intro u v hau hbv hu hv d
    induction d with
    | zero =>
      intro n A B hAB hA hB
      have hn : (cl (dB S j) t w).length = n := by rw [hAB, List.length_append, hA, hB]; rfl
      have h33 := hT.1
      refine w_iload C dX7_worst_31 rfl ?_
      refine w_aload_n C dX7_worst_33 rfl ?_
      refine g_X7_152 C dX7_worst_34 (by first | assumption | exact Nat.zero_lt_one | exact Nat.zero_lt_two | exact Nat.one_lt_two) ?_
      refine w_icmp_ge C dX7_worst_37 (by omega) (by omega) (fun h37 => ?_) (fun h37 => ?_)
      · refine w_iload_n C dX7_worst_140 rfl ?_
        refine w_iret C hr dX7_worst_141 rfl (⟨rfl, congrArg (fun z : Int => some (aI z)) (by unfold wstS; rw [hau, hbv, if_neg (by omega), Int.toNat_natCast, Int.toNat_natCast, hAB, List.length_eq_zero_iff.mp hB, List.append_nil])⟩) (by decide) (by decide)
      · omega
    | succ d ih =>
      intro n A B hAB hA hB
      obtain ⟨q, B', rfl⟩ : ∃ q B', B = q :: B' := by
        cases B with
        | nil => cases hB
        | cons q B' => exact ⟨q, B', rfl⟩
      have hn : (cl (dB S j) t w).length = n + (d + 1) := by rw [hAB, List.length_append, hA, hB]
      have hCM := hT.1
      have hq : (cl (dB S j) t w)[n]? = some q := by rw [hAB, ← hA]; simp
      obtain ⟨t1, t2⟩ := hT.2.1 n q hq
      have hqc := nc_lt (mem_cl.mp (List.mem_of_getElem? hq))
      have hw3 := wsC_3 S P u v A
      have hap := wsC_app S P u v A q
      have hit : itC S P (u + q.1) (v + q.2) = if 60 ≤ u + q.1 ∨ colsS S ≤ v + q.2 then 3 else if badS S (u + q.1) (v + q.2) = true then 2 else if clo S P (12 * (u + q.1) + (v + q.2)) ≠ -1 then 1 else 0 := rfl
      have hb1 := b2_01 (badS S (u + q.1) (v + q.2) = true)
      have hcb := clo_bd hI hnx (12 * (u + q.1) + (v + q.2))
      have K119 : ∀ z : Nat, z = itC S P (u + q.1) (v + q.2) → Wm p l e (rmd 2 0 0) s m args below meth c 8 D cA b0 0 0 (vx_MQ below (mQ D cA b0 ad cntM (fun r9 M' => M' = M ∧ r9 = some (aI (wstS S P j t w a b : Nat)))) (mX D cA b0 ad cntM noX) args s 0 0 b0) 119 [(0, aO 40 0), (1, aI u), (2, aI v), (3, aI (wsC S P u v A : Nat)), (4, aI n)] [aI z] ad cntM M := by
        intro z hz
        rw [← hz] at hap
        have hz3 : z ≤ 3 := by rw [hz]; exact itC_3 _ _ _ _
        refine w_istore C dX7_worst_119 (by decide) ?_
        refine w_iload C dX7_worst_121 rfl ?_
        refine w_iload_n C dX7_worst_123 rfl ?_
        refine w_icmp_le C dX7_worst_124 (by omega) (by omega) (fun h124 => ?_) (fun h124 => ?_)
        · refine w_iload_n C dX7_worst_132 rfl ?_
          refine w_istore_n C dX7_worst_133 (by decide) ?_
          refine w_iinc C dX7_worst_134 rfl (by decide) ?_
          refine w_goto C dX7_worst_137 ?_
          refine Wm.lsub (lv' := [(0, aO 40 0), (1, aI u), (2, aI v), (3, aI (wsC S P u v (A ++ [q]) : Nat)), (4, aI ((n + 1 : Nat) : Int))]) ⟨rfl, rfl, rfl, congrArg (fun z : Int => some (aI z)) (by rw [hap]; omega), rfl, trivial⟩ (ih (n + 1) (A ++ [q]) B' (by rw [hAB]; simp) (by simp [hA]) (by simpa using hB))
        · refine w_iload C dX7_worst_127 rfl ?_
          refine w_goto C dX7_worst_129 ?_
          refine w_istore_n C dX7_worst_133 (by decide) ?_
          refine w_iinc C dX7_worst_134 rfl (by decide) ?_
          refine w_goto C dX7_worst_137 ?_
          refine Wm.lsub (lv' := [(0, aO 40 0), (1, aI u), (2, aI v), (3, aI (wsC S P u v (A ++ [q]) : Nat)), (4, aI ((n + 1 : Nat) : Int))]) ⟨rfl, rfl, rfl, congrArg (fun z : Int => some (aI z)) (by rw [hap]; omega), rfl, trivial⟩ (ih (n + 1) (A ++ [q]) B' (by rw [hAB]; simp) (by simp [hA]) (by simpa using hB))
      refine w_iload C dX7_worst_31 rfl ?_
      refine w_aload_n C dX7_worst_33 rfl ?_
      refine g_X7_152 C dX7_worst_34 (by first | assumption | exact Nat.zero_lt_one | exact Nat.zero_lt_two | exact Nat.one_lt_two) ?_
      refine w_icmp_ge C dX7_worst_37 (by omega) (by omega) (fun h37 => ?_) (fun h37 => ?_)
      · omega
      · refine w_iload_n C dX7_worst_40 rfl ?_
        refine w_aload_n C dX7_worst_41 rfl ?_
        refine g_X7_79 C dX7_worst_42 (by first | assumption | exact Nat.zero_lt_one | exact Nat.zero_lt_two | exact Nat.one_lt_two) ?_
        refine w_iload C dX7_worst_45 rfl ?_
        refine w_ialdN (j := n) C dX7_worst_47 (by first | assumption | exact Nat.zero_lt_one | exact Nat.zero_lt_two | exact Nat.one_lt_two) IA_63 (by omega) (by omega) ?_
        rw [t1]
        refine w_iadd C dX7_worst_48 ?_
        refine Wm.top (v' := aI ((u + q.1 : Nat) : Int)) rfl ?_
        refine w_istore C dX7_worst_49 (by decide) ?_
        refine w_iload_n C dX7_worst_51 rfl ?_
        refine w_aload_n C dX7_worst_52 rfl ?_
        refine g_X7_82 C dX7_worst_53 (by first | assumption | exact Nat.zero_lt_one | exact Nat.zero_lt_two | exact Nat.one_lt_two) ?_
        refine w_iload C dX7_worst_56 rfl ?_
        refine w_ialdN (j := n) C dX7_worst_58 (by first | assumption | exact Nat.zero_lt_one | exact Nat.zero_lt_two | exact Nat.one_lt_two) IA_64 (by omega) (by omega) ?_
        rw [t2]
        refine w_iadd C dX7_worst_59 ?_
        refine Wm.top (v' := aI ((v + q.2 : Nat) : Int)) rfl ?_
        refine w_istore C dX7_worst_60 (by decide) ?_
        refine w_iload C dX7_worst_62 rfl ?_
        refine w_bipush (v := 60) C dX7_worst_64 rfl ?_
        refine w_icmp_ge C dX7_worst_66 (by omega) (by omega) (fun h66 => ?_) (fun h66 => ?_)
        · refine w_iconst C dX7_worst_78 ?_
          refine w_goto C dX7_worst_79 ?_
          refine Wm.lsub (lv' := [(0, aO 40 0), (1, aI u), (2, aI v), (3, aI (wsC S P u v A : Nat)), (4, aI n)]) ⟨rfl, rfl, rfl, rfl, rfl, trivial⟩ ?_
          first | exact K119 3 (by rw [hit, if_pos (by omega)]) | exact K119 2 (by rw [hit, if_neg (by omega), if_pos (b2_n0 (by assumption))]) | exact K119 1 (by rw [hit, if_neg (by omega), if_neg (b2_is0 (by omega)), if_pos (by omega)]) | exact K119 0 (by rw [hit, if_neg (by omega), if_neg (b2_is0 (by omega)), if_neg (by omega)])
        · refine w_iload C dX7_worst_69 rfl ?_
          refine w_aload_n C dX7_worst_71 rfl ?_
          refine w_callV C dX7_worst_72 (c_X7_columns hl hI.1 hR) mX7_columns vX7_columns lk_X7_165 (by first | assumption | exact Nat.zero_lt_one | exact Nat.zero_lt_two | exact Nat.one_lt_two) rfl rfl rfl rfl ⟨by decide, by decide, by decide, by decide⟩ (Nat.le_of_ble_eq_true rfl) (fun _ _ h => h.elim) ⟨by decide, by decide⟩ (fun r_ M_ q72 => ?_)
          obtain ⟨rfl, rfl⟩ := q72
          refine w_icmp_lt C dX7_worst_75 (by omega) (by omega) (fun h75 => ?_) (fun h75 => ?_)
          · refine w_aload_n C dX7_worst_82 rfl ?_
            refine w_iload C dX7_worst_83 rfl ?_
            refine w_iload C dX7_worst_85 rfl ?_
            refine w_callV C dX7_worst_87 (c_X7_isBad hl hI.1 hR (u + q.1) (v + q.2) (by omega) (by omega)) mX7_isBad vX7_isBad lk_X7_169 (by first | assumption | exact Nat.zero_lt_one | exact Nat.zero_lt_two | exact Nat.one_lt_two) rfl rfl rfl rfl ⟨by decide, by decide, by decide, by decide⟩ (Nat.le_of_ble_eq_true rfl) (fun _ _ h => h.elim) ⟨by decide, by decide⟩ (fun r_ M_ q87 => ?_)
            obtain ⟨rfl, rfl⟩ := q87
            refine w_if_eq C dX7_worst_90 (by omega) (fun h90 => ?_) (fun h90 => ?_)
            · refine w_aload_n C dX7_worst_97 rfl ?_
              refine g_X7_64 C dX7_worst_98 (by first | assumption | exact Nat.zero_lt_one | exact Nat.zero_lt_two | exact Nat.one_lt_two) ?_
              refine w_bipush (v := 12) C dX7_worst_101 rfl ?_
              refine w_iload C dX7_worst_103 rfl ?_
              refine w_imul C dX7_worst_105 ?_
              refine w_iload C dX7_worst_106 rfl ?_
              refine w_iadd C dX7_worst_108 ?_
              refine w_ialdN (j := 12 * (u + q.1) + (v + q.2)) C dX7_worst_109 (by first | assumption | exact Nat.zero_lt_one | exact Nat.zero_lt_two | exact Nat.one_lt_two) IA_58 (by omega) (by omega) ?_
              rw [hR.2.2.2.2.1.2.1 (12 * (u + q.1) + (v + q.2)) (by omega)]
              refine w_iconst C dX7_worst_110 ?_
              refine w_icmp_eq C dX7_worst_111 (by omega) (by omega) (fun h111 => ?_) (fun h111 => ?_)
              · refine w_iconst C dX7_worst_118 ?_
                refine Wm.lsub (lv' := [(0, aO 40 0), (1, aI u), (2, aI v), (3, aI (wsC S P u v A : Nat)), (4, aI n)]) ⟨rfl, rfl, rfl, rfl, rfl, trivial⟩ ?_
                first | exact K119 3 (by rw [hit, if_pos (by omega)]) | exact K119 2 (by rw [hit, if_neg (by omega), if_pos (b2_n0 (by assumption))]) | exact K119 1 (by rw [hit, if_neg (by omega), if_neg (b2_is0 (by omega)), if_pos (by omega)]) | exact K119 0 (by rw [hit, if_neg (by omega), if_neg (b2_is0 (by omega)), if_neg (by omega)])
              · refine w_iconst C dX7_worst_114 ?_
                refine w_goto C dX7_worst_115 ?_
                refine Wm.lsub (lv' := [(0, aO 40 0), (1, aI u), (2, aI v), (3, aI (wsC S P u v A : Nat)), (4, aI n)]) ⟨rfl, rfl, rfl, rfl, rfl, trivial⟩ ?_
                first | exact K119 3 (by rw [hit, if_pos (by omega)]) | exact K119 2 (by rw [hit, if_neg (by omega), if_pos (b2_n0 (by assumption))]) | exact K119 1 (by rw [hit, if_neg (by omega), if_neg (b2_is0 (by omega)), if_pos (by omega)]) | exact K119 0 (by rw [hit, if_neg (by omega), if_neg (b2_is0 (by omega)), if_neg (by omega)])
            · refine w_iconst C dX7_worst_93 ?_
              refine w_goto C dX7_worst_94 ?_
              refine Wm.lsub (lv' := [(0, aO 40 0), (1, aI u), (2, aI v), (3, aI (wsC S P u v A : Nat)), (4, aI n)]) ⟨rfl, rfl, rfl, rfl, rfl, trivial⟩ ?_
              first | exact K119 3 (by rw [hit, if_pos (by omega)]) | exact K119 2 (by rw [hit, if_neg (by omega), if_pos (b2_n0 (by assumption))]) | exact K119 1 (by rw [hit, if_neg (by omega), if_neg (b2_is0 (by omega)), if_pos (by omega)]) | exact K119 0 (by rw [hit, if_neg (by omega), if_neg (b2_is0 (by omega)), if_neg (by omega)])
          · refine w_iconst C dX7_worst_78 ?_
            refine w_goto C dX7_worst_79 ?_
            refine Wm.lsub (lv' := [(0, aO 40 0), (1, aI u), (2, aI v), (3, aI (wsC S P u v A : Nat)), (4, aI n)]) ⟨rfl, rfl, rfl, rfl, rfl, trivial⟩ ?_
            first | exact K119 3 (by rw [hit, if_pos (by omega)]) | exact K119 2 (by rw [hit, if_neg (by omega), if_pos (b2_n0 (by assumption))]) | exact K119 1 (by rw [hit, if_neg (by omega), if_neg (b2_is0 (by omega)), if_pos (by omega)]) | exact K119 0 (by rw [hit, if_neg (by omega), if_neg (b2_is0 (by omega)), if_neg (by omega)])
  refine w_iload_n C dX7_worst_0 rfl ?_
  refine w_iconst C dX7_worst_1 ?_
  refine w_bipush (v := 59) C dX7_worst_2 rfl ?_
  refine w_callS C dX7_worst_4 (c_X7_in hl a 0 59 (by omega) (by omega) (by omega)) mX7_in sX7_in lk_X7_122 rfl rfl ⟨by decide, by decide, by decide, by decide⟩ (Nat.le_of_ble_eq_true rfl) (fun _ _ h => h.elim) ⟨by decide, by decide⟩ (fun r_ M_ q4 => ?_)
  obtain ⟨rfl, rfl⟩ := q4
  refine w_if_eq C dX7_worst_7 (by omega) (fun h7 => ?_) (fun h7 => ?_)
  · have y1 := b2_is0 h7
    refine w_iconst C dX7_worst_24 ?_
    refine w_iret C hr dX7_worst_25 rfl (⟨rfl, congrArg (fun z : Int => some (aI z)) (by unfold wstS; rw [if_pos (by omega)]; rfl)⟩) (by decide) (by decide)
  · have y1 := b2_n0 h7
    refine w_iload_n C dX7_worst_10 rfl ?_
    refine w_iconst C dX7_worst_11 ?_
    refine w_aload_n C dX7_worst_12 rfl ?_
    refine w_callV C dX7_worst_13 (c_X7_columns hl hI.1 hR) mX7_columns vX7_columns lk_X7_165 (by first | assumption | exact Nat.zero_lt_one | exact Nat.zero_lt_two | exact Nat.one_lt_two) rfl rfl rfl rfl ⟨by decide, by decide, by decide, by decide⟩ (Nat.le_of_ble_eq_true rfl) (fun _ _ h => h.elim) ⟨by decide, by decide⟩ (fun r_ M_ q13 => ?_)
    obtain ⟨rfl, rfl⟩ := q13
    refine w_iconst C dX7_worst_16 ?_
    refine w_isub C dX7_worst_17 ?_
    refine w_callS C dX7_worst_18 (c_X7_in hl b 0 ((colsS S : Int) - 1) (by omega) (by omega) (by omega)) mX7_in sX7_in lk_X7_122 rfl rfl ⟨by decide, by decide, by decide, by decide⟩ (Nat.le_of_ble_eq_true rfl) (fun _ _ h => h.elim) ⟨by decide, by decide⟩ (fun r_ M_ q18 => ?_)
    obtain ⟨rfl, rfl⟩ := q18
    refine w_if_ne C dX7_worst_21 (by omega) (fun h21 => ?_) (fun h21 => ?_)
    · have y2 := b2_n0 h21
      obtain ⟨u, rfl⟩ := Int.eq_ofNat_of_zero_le y1.1
      obtain ⟨v, rfl⟩ := Int.eq_ofNat_of_zero_le y2.1
      refine w_iconst C dX7_worst_26 ?_
      refine w_istore_n C dX7_worst_27 (by decide) ?_
      refine w_iconst C dX7_worst_28 ?_
      refine w_istore C dX7_worst_29 (by decide) ?_
      exact Wm.lsub (lv' := [(0, aO 40 0), (1, aI u), (2, aI v), (3, aI (wsC S P u v [] : Nat)), (4, aI ((0 : Nat) : Int))]) ⟨rfl, rfl, rfl, rfl, rfl, trivial⟩ (L u v rfl rfl (by omega) (by omega) _ 0 [] _ rfl rfl rfl)
    · have y2 := b2_is0 (Decidable.not_not.mp h21)
      refine w_iconst C dX7_worst_24 ?_
      refine w_iret C hr dX7_worst_25 rfl (⟨rfl, congrArg (fun z : Int => some (aI z)) (by unfold wstS; rw [if_pos (by omega)]; rfl)⟩) (by decide) (by decide)
end Mo
