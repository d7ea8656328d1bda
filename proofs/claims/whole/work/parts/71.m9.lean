-- MODEL
/-! the model: make, pliesFor -/
def mkS (S : Sg) (y g : Nat) : Sg := fun f i q => if f = 14 ∧ i < nsS S ∧ q = 0 then S 14 i 0 - g * ctS S y i else if f = 14 ∧ i < nsS S ∧ q = 1 ∧ paS S i = 1 then S 14 i 1 - g * ctS S y i else if f = 17 ∧ i = y ∧ q = 0 then S 17 y 0 + g else S f i q
def oMake (a g : Int) (S : Sg) (P : List Pc) (nx : Nat) : Res := if ¬ (0 ≤ a ∧ a < ntS S) then (1, 0, S, P, nx) else if ¬ (1 ≤ g ∧ g ≤ 99) then (2, 0, S, P, nx) else if takS S a.toNat = 0 then (3, 0, S, P, nx) else if (giN S a.toNat (nsS S) : Int) < g then (4, 0, S, P, nx) else (0, (mdS S a.toNat : Int) + g, mkS S a.toNat g.toNat, P, nx)
theorem mk_0 {S : Sg} {y g i : Nat} : stS (mkS S y g) i 0 = if i < nsS S then stS S i 0 - g * ctS S y i else stS S i 0 := by
  show mkS S y g 14 i 0 = _
  unfold mkS
  by_cases h : i < nsS S
  · rw [if_pos ⟨rfl, h, rfl⟩, if_pos h]
  · rw [if_neg (fun q => h q.2.1), if_neg (fun q => h q.2.1), if_neg (fun q => absurd q.1 (by decide)), if_neg h]
theorem mk_1 {S : Sg} {y g i : Nat} : stS (mkS S y g) i 1 = if i < nsS S ∧ paS S i = 1 then stS S i 1 - g * ctS S y i else stS S i 1 := by
  show mkS S y g 14 i 1 = _
  unfold mkS
  rw [if_neg (fun q => absurd q.2.2 (by decide))]
  by_cases h : i < nsS S ∧ paS S i = 1
  · rw [if_pos ⟨rfl, h.1, rfl, h.2⟩, if_pos h]
  · rw [if_neg (fun q => h ⟨q.2.1, q.2.2.2⟩), if_neg (fun q => absurd q.1 (by decide)), if_neg h]
theorem mk_md {S : Sg} {y g i : Nat} : mdS (mkS S y g) i = mdS S i + if i = y then g else 0 := by
  show mkS S y g 17 i 0 = _
  unfold mkS
  rw [if_neg (fun q => absurd q.1 (by decide)), if_neg (fun q => absurd q.1 (by decide))]
  by_cases h : i = y
  · rw [if_pos ⟨rfl, h, rfl⟩, if_pos h, h]
  · rw [if_neg (fun q => h q.2.1), if_neg h]
    rfl
theorem mk_ag {S : Sg} {y g f i q : Nat} (h1 : f ≠ 14) (h2 : f ≠ 17) : mkS S y g f i q = S f i q := by
  unfold mkS
  rw [if_neg (fun z => h1 z.1), if_neg (fun z => h1 z.1), if_neg (fun z => h2 z.1)]
theorem sum_one (f h : Nat → Nat) (y g n : Nat) : sumN (fun i => (f i + if i = y then g else 0) * h i) n = sumN (fun i => f i * h i) n + if y < n then g * h y else 0 := by
  induction n with
  | zero => rfl
  | succ n ih =>
    show sumN _ n + (f n + if n = y then g else 0) * h n = sumN _ n + f n * h n + _
    rw [ih, Nat.add_mul]
    by_cases h1 : n = y
    · subst h1
      rw [if_pos rfl, if_neg (Nat.lt_irrefl _), if_pos (Nat.lt_succ_self _)]
      omega
    · rw [if_neg h1, Nat.zero_mul]
      by_cases h2 : y < n
      · rw [if_pos h2, if_pos (by omega)]
        omega
      · rw [if_neg h2, if_neg (by omega)]
        omega
theorem gar_mk {S : Sg} {y g j : Nat} (hy : y < 4) : garS (mkS S y g) j = garS S j + g * (ctS S y j * pppS S j) := by
  have e : garS (mkS S y g) j = sumN (fun i => (mdS S i + if i = y then g else 0) * (ctS S i j * pppS S j)) 4 := by
    unfold garS
    refine sumN_cg fun i _ => ?_
    rw [mk_md, show ctS (mkS S y g) i j = ctS S i j from mk_ag (by decide) (by decide)]
    have : pppS (mkS S y g) j = pppS S j := by
      unfold pppS
      rw [show paS (mkS S y g) j = paS S j from mk_ag (by decide) (by decide)]
    rw [this]
  rw [e, sum_one (fun i => mdS S i) (fun i => ctS S i j * pppS S j), if_pos hy]
  rfl
theorem eS_mk {S : Sg} (hZ : InvZ S) {y g : Nat} (hy : y < 4) (hok : okT S y g (nsS S)) (j : Nat) : eS (mkS S y g) j = eS S j := by
  unfold eS
  rw [mk_0, mk_1, gar_mk hy]
  by_cases hj : j < nsS S
  · have h := hok j hj
    rw [if_pos hj]
    by_cases hp : paS S j = 1
    · have h2 := h.2 hp
      rw [if_pos ⟨hj, hp⟩, show pppS S j = 2 from if_pos hp]
      have e9 : g * (ctS S y j * 2) = g * ctS S y j + g * ctS S y j := by rw [← Nat.mul_assoc]; omega
      omega
    · rw [if_neg (fun q => hp q.2), show pppS S j = 1 from if_neg hp, Nat.mul_one]
      omega
  · rw [if_neg hj, if_neg (fun q => hj q.1), (hZ.1 j (by omega)).2.2.2.2.2.2.2.2.2 y, Nat.zero_mul, Nat.mul_zero, Nat.add_zero]
theorem pfs_iff {m : Int} {p k : Nat} : (pfs m p ≠ -1 ∧ pfs m p ≤ k) ↔ m ≤ ((k * p : Nat) : Int) := by
  unfold pfs
  by_cases h1 : m ≤ 0
  · rw [if_pos h1]
    exact ⟨fun _ => by omega, fun _ => by omega⟩
  · rw [if_neg h1]
    by_cases h2 : 0 < p
    · rw [if_pos h2]
      have h0 : 0 ≤ (m + p - 1) / (p : Int) := Int.ediv_nonneg (by omega) (by omega)
      have h3 : (m + p - 1) / (p : Int) < (k : Int) + 1 ↔ m + p - 1 < ((k : Int) + 1) * p := Int.ediv_lt_iff_lt_mul (by omega)
      have h4 : ((k : Int) + 1) * p = (k * p : Nat) + p := by
        rw [Int.add_mul, Int.one_mul, Int.natCast_mul]
      rw [h4] at h3
      constructor
      · intro h
        have := h3.mp (by omega)
        omega
      · intro h
        have := h3.mpr (by omega)
        omega
    · rw [if_neg h2, show p = 0 by omega, Nat.mul_zero]
      exact ⟨fun h => absurd rfl h.1, fun h => by omega⟩
theorem pfs_ge {m : Int} {p : Nat} : -1 ≤ pfs m p := by
  unfold pfs
  split
  · decide
  · split
    · have : 0 ≤ (m + p - 1) / (p : Int) := Int.ediv_nonneg (by omega) (by omega)
      omega
    · decide
theorem pfp_iff {S : Sg} {P : List Pc} {j k : Nat} {m : Int} : (pfp S P j m ≠ -1 ∧ pfp S P j m ≤ k) ↔ m ≤ stS S j 0 + ((k * perS S P j 0 : Nat) : Int) ∧ (paS S j = 1 → m ≤ stS S j 1 + ((k * perS S P j 1 : Nat) : Int)) := by
  have a0 := pfs_iff (m := m - stS S j 0) (p := perS S P j 0) (k := k)
  have a1 := pfs_iff (m := m - stS S j 1) (p := perS S P j 1) (k := k)
  have n0 : -1 ≤ pfs (m - stS S j 0) (perS S P j 0) := pfs_ge
  have n1 : -1 ≤ pfs (m - stS S j 1) (perS S P j 1) := pfs_ge
  unfold pfp
  by_cases h1 : pfs (m - stS S j 0) (perS S P j 0) = -1 ∨ (paS S j = 1 ∧ pfs (m - stS S j 1) (perS S P j 1) = -1)
  · rw [if_pos h1]
    refine ⟨fun h => absurd rfl h.1, fun h => ?_⟩
    rcases h1 with h1 | ⟨h2, h1⟩
    · exact absurd h1 (a0.mpr (by omega)).1
    · exact absurd h1 (a1.mpr (by have := h.2 h2; omega)).1
  · rw [if_neg h1]
    by_cases hp : paS S j = 1
    · rw [if_pos hp]
      constructor
      · intro h
        have q0 := a0.mp ⟨by omega, by omega⟩
        have q1 := a1.mp ⟨by omega, by omega⟩
        exact ⟨by omega, fun _ => by omega⟩
      · intro h
        have q0 := a0.mpr (by omega)
        have q1 := a1.mpr (by have := h.2 hp; omega)
        omega
    · rw [if_neg hp]
      constructor
      · intro h
        have q0 := a0.mp ⟨by omega, by omega⟩
        exact ⟨by omega, fun q => absurd q hp⟩
      · intro h
        have q0 := a0.mpr (by omega)
        omega
theorem pfp_ge {S : Sg} {P : List Pc} {j : Nat} {m : Int} : -1 ≤ pfp S P j m := by
  have n0 : -1 ≤ pfs (m - stS S j 0) (perS S P j 0) := pfs_ge
  unfold pfp
  (repeat' split) <;> omega
theorem plF_ge {S : Sg} {P : List Pc} {y : Nat} {g : Int} (n : Nat) : -1 ≤ plF S P y g n := by
  induction n with
  | zero => show -1 ≤ (0 : Int); omega
  | succ n ih =>
    unfold plF
    split <;> omega
theorem plF_iff {S : Sg} {P : List Pc} {y k g : Nat} (n : Nat) : (plF S P y g n ≠ -1 ∧ plF S P y g n ≤ k) ↔ okK S P y k g n := by
  induction n with
  | zero => exact ⟨fun _ j hj => absurd hj (Nat.not_lt_zero j), fun _ => ⟨by show (0 : Int) ≠ -1; omega, by show (0 : Int) ≤ k; omega⟩⟩
  | succ n ih =>
    have key : okK S P y k g (n + 1) ↔ okK S P y k g n ∧ (g * ctS S y n ≤ stS S n 0 + k * perS S P n 0 ∧ (paS S n = 1 → g * ctS S y n ≤ stS S n 1 + k * perS S P n 1)) := by
      constructor
      · intro h
        exact ⟨fun j hj => h j (by omega), h n (by omega)⟩
      · rintro ⟨h1, h2⟩ j hj
        by_cases h : j = n
        · rw [h]
          exact h2
        · exact h1 j (by omega)
    have hp := pfp_iff (S := S) (P := P) (j := n) (k := k) (m := (g : Int) * ctS S y n)
    have e1 : ((g : Int) * ctS S y n ≤ stS S n 0 + ((k * perS S P n 0 : Nat) : Int) ∧ (paS S n = 1 → (g : Int) * ctS S y n ≤ stS S n 1 + ((k * perS S P n 1 : Nat) : Int))) ↔ (g * ctS S y n ≤ stS S n 0 + k * perS S P n 0 ∧ (paS S n = 1 → g * ctS S y n ≤ stS S n 1 + k * perS S P n 1)) := by
      rw [← Int.natCast_mul]
      constructor
      · rintro ⟨h1, h2⟩
        exact ⟨by omega, fun q => by have := h2 q; omega⟩
      · rintro ⟨h1, h2⟩
        exact ⟨by omega, fun q => by have := h2 q; omega⟩
    rw [key, ← ih, ← e1, ← hp, plF]
    have n0 := plF_ge (S := S) (P := P) (y := y) (g := (g : Int)) n
    by_cases h1 : plF S P y g n = -1 ∨ pfp S P n ((g : Int) * ctS S y n) = -1
    · rw [if_pos h1]
      exact ⟨fun h => absurd rfl h.1, fun h => by rcases h1 with h1 | h1; exact absurd h1 h.1.1; exact absurd h1 h.2.1⟩
    · rw [if_neg h1]
      constructor
      · intro h
        exact ⟨⟨by omega, by omega⟩, by omega, by omega⟩
      · intro h
        have h3 : -1 ≤ pfp S P n ((g : Int) * ctS S y n) := pfp_ge
        omega
theorem okK_396 {S : Sg} {P : List Pc} {y k g n : Nat} (hG : GInv S) (hg : g ≤ 99) (h : okK S P y k g n) : okK S P y 400 g n := by
  intro j hj
  have hc := hG.2.2.2.2.2.2.2.2.2.2.1 y j
  have hm : g * ctS S y j ≤ 99 * 4 := Nat.mul_le_mul hg hc
  have key : ∀ st p : Nat, g * ctS S y j ≤ st + k * p → g * ctS S y j ≤ st + 400 * p := fun st p q => by
    by_cases hp : p = 0
    · subst hp
      omega
    · omega
  exact ⟨key _ _ (h j hj).1, fun q => key _ _ ((h j hj).2 q)⟩
theorem plF_no400 {S : Sg} {P : List Pc} {y g n : Nat} (hG : GInv S) (hg : g ≤ 99) (h : ∀ k, k ≤ 400 → ¬ okK S P y k g n) : plF S P y g n = -1 := by
  refine Decidable.byContradiction fun q => ?_
  have h0 := plF_ge (S := S) (P := P) (y := y) (g := (g : Int)) n
  obtain ⟨p, hp⟩ := Int.eq_ofNat_of_zero_le (show 0 ≤ plF S P y g n by omega)
  exact h 400 (Nat.le_refl _) (okK_396 hG hg ((plF_iff n).mp ⟨q, Int.le_of_eq hp⟩))
theorem plF_is {S : Sg} {P : List Pc} {y g n k : Nat} (hk : okK S P y k g n) (h : ∀ k', k' < k → ¬ okK S P y k' g n) : plF S P y g n = k := by
  obtain ⟨h1, h2⟩ := (plF_iff n).mpr hk
  have h0 := plF_ge (S := S) (P := P) (y := y) (g := (g : Int)) n
  obtain ⟨p, hp⟩ := Int.eq_ofNat_of_zero_le (show 0 ≤ plF S P y g n by omega)
  have h3 := (plF_iff (k := p) n).mp ⟨h1, Int.le_of_eq hp⟩
  rcases Nat.lt_or_ge p k with q | q
  · exact absurd h3 (h p q)
  · omega
section Mo
variable {l : Launch} {b0 : Nat → Prop} {ad : Ads} {M : Mem}
theorem c_X7_pliesFor (hl : l.stackTraces = false) {S : Sg} {P : List Pc} {nx : Nat} (hI : Inv S P nx) (hR : RepMo S P nx M) (a g : Int) (ha : -2147483648 ≤ a ∧ a ≤ 2147483647) (hg : -2147483648 ≤ g ∧ g ≤ 2147483647) : Con l b0 yX7_pliesFor cX7_pliesFor 4 (some .int) 3 0 0 [aO 40 0, aI a, aI g] ad cntM M (okM (oPliesFor a g S P nx)) noX := by
  have g7 := hI.1.2.2.2.2.2.2.1
  have b1 := b2_01 (0 ≤ a ∧ a < ntS S)
  have b3 := b2_01 (1 ≤ g ∧ g ≤ 99)
  refine Con.of hl pl_X7 (Nat.le_of_ble_eq_true rfl) ?_
  intro D cA p e s m args below meth c C hr
  have L : ∀ (u v : Nat), a = (u : Int) → g = (v : Int) → u < ntS S → 1 ≤ v → v ≤ 99 → takS S u ≠ 0 → ∀ M1, RepMo S P nx M1 → ∀ (b n : Nat), n + b = 401 → (∀ k, k < n → ¬ okK S P u k v (nsS S)) → Wm p l e (rmd 3 0 0) s m args below meth c 4 D cA b0 0 0 (vx_MQ below (mQ D cA b0 ad cntM (okM (oPliesFor a g S P nx))) (mX D cA b0 ad cntM noX) args s 0 0 b0) 50 [(0, aO 40 0), (1, aI u), (2, aI v), (3, aI n)] [] ad cntM M1 := by
    intro u v hau hgv hu hv1 hv2 ht M1 hR b
    have K73 : ∀ n : Nat, n ≤ 401 → ((n ≤ 400 ∧ okK S P u n v (nsS S) ∧ ∀ k, k < n → ¬ okK S P u k v (nsS S)) ∨ (400 < n ∧ ∀ k, k ≤ 400 → ¬ okK S P u k v (nsS S))) → Wm p l e (rmd 3 0 0) s m args below meth c 4 D cA b0 0 0 (vx_MQ below (mQ D cA b0 ad cntM (okM (oPliesFor a g S P nx))) (mX D cA b0 ad cntM noX) args s 0 0 b0) 73 [(0, aO 40 0), (1, aI u), (2, aI v), (3, aI n)] [] ad cntM M1 := by
      intro n hn4 hn
      refine w_aload_n C dX7_pliesFor_73 rfl ?_
      refine w_iload_n C dX7_pliesFor_74 rfl ?_
      refine w_sipush (v := 400) C dX7_pliesFor_75 rfl ?_
      refine w_icmp_le C dX7_pliesFor_78 (by omega) (by omega) (fun h78 => ?_) (fun h78 => ?_)
      · refine w_iconst C dX7_pliesFor_85 ?_
        refine w_callV C dX7_pliesFor_86 (c_X7_failsN hl 0 (by omega)) mX7_fails vX7_fails lk_X7_129 (by first | assumption | exact Nat.zero_lt_one | exact Nat.zero_lt_two | exact Nat.one_lt_two) rfl rfl rfl rfl ⟨by decide, by decide, by decide, by decide⟩ (Nat.le_of_ble_eq_true rfl) (fun _ _ h => h.elim) ⟨by decide, by decide⟩ (fun r_ MF q86 => ?_)
        obtain ⟨kF, kT, rfl⟩ := q86
        have hRF := hR.fr kF.fr
        refine w_if_eq_y C dX7_pliesFor_89 (by omega) (by decide) ?_
        refine w_iload_n C dX7_pliesFor_96 rfl ?_
        refine w_iret C hr dX7_pliesFor_97 rfl (by
            first
            | exact okM_no (i := 4) (v := 0) (by unfold oPliesFor; rw [if_neg (by omega), if_neg (by omega), hau, hgv, Int.toNat_natCast, if_neg ht, if_pos (by rcases hn with h | h; omega; exact plF_no400 hI.1 hv2 h.2)]) (by decide) rfl kT hRF
            | exact okM_of (v := (n : Int)) (by
                have hp : plF S P u v (nsS S) = n := by
                  rcases hn with h | h
                  · exact plF_is h.2.1 h.2.2
                  · omega
                unfold oPliesFor
                rw [if_neg (by omega), if_neg (by omega), hau, hgv, Int.toNat_natCast, if_neg ht, hp, if_neg (by omega)]) rfl kT hRF) (by decide) (by decide)
      · refine w_iconst C dX7_pliesFor_81 ?_
        refine w_goto C dX7_pliesFor_82 ?_
        refine w_callV C dX7_pliesFor_86 (c_X7_failsY hl 4 (by omega)) mX7_fails vX7_fails lk_X7_129 (by first | assumption | exact Nat.zero_lt_one | exact Nat.zero_lt_two | exact Nat.one_lt_two) rfl rfl rfl rfl ⟨by decide, by decide, by decide, by decide⟩ (Nat.le_of_ble_eq_true rfl) (fun _ _ h => h.elim) ⟨by decide, by decide⟩ (fun r_ MF q86 => ?_)
        obtain ⟨kF, kT, rfl⟩ := q86
        have hRF := hR.fr kF.fr
        refine w_if_eq_n C dX7_pliesFor_89 (by omega) (by decide) ?_
        refine w_iconst C dX7_pliesFor_92 ?_
        refine w_goto C dX7_pliesFor_93 ?_
        refine w_iret C hr dX7_pliesFor_97 rfl (by
            first
            | exact okM_no (i := 4) (v := 0) (by unfold oPliesFor; rw [if_neg (by omega), if_neg (by omega), hau, hgv, Int.toNat_natCast, if_neg ht, if_pos (by rcases hn with h | h; omega; exact plF_no400 hI.1 hv2 h.2)]) (by decide) rfl kT hRF
            | exact okM_of (v := (n : Int)) (by
                have hp : plF S P u v (nsS S) = n := by
                  rcases hn with h | h
                  · exact plF_is h.2.1 h.2.2
                  · omega
                unfold oPliesFor
                rw [if_neg (by omega), if_neg (by omega), hau, hgv, Int.toNat_natCast, if_neg ht, hp, if_neg (by omega)]) rfl kT hRF) (by decide) (by decide)
    induction b with
    | zero =>
      intro n hn hno
      refine w_iload_n C dX7_pliesFor_50 rfl ?_
      refine w_sipush (v := 400) C dX7_pliesFor_51 rfl ?_
      refine w_icmp_gt C dX7_pliesFor_54 (by omega) (by omega) (fun h54 => ?_) (fun h54 => ?_)
      · exact K73 n (by omega) (Or.inr ⟨by omega, fun k hk => hno k (by omega)⟩)
      · omega
    | succ b ih =>
      intro n hn hno
      have hml := mkN_le S P u n (nsS S)
      have hmk := mkN_iff (S := S) (P := P) (y := u) (k := n) (g := v) (by omega) (nsS S)
      refine w_iload_n C dX7_pliesFor_50 rfl ?_
      refine w_sipush (v := 400) C dX7_pliesFor_51 rfl ?_
      refine w_icmp_gt C dX7_pliesFor_54 (by omega) (by omega) (fun h54 => ?_) (fun h54 => ?_)
      · omega
      · refine w_aload_n C dX7_pliesFor_57 rfl ?_
        refine w_iload_n C dX7_pliesFor_58 rfl ?_
        refine w_iload_n C dX7_pliesFor_59 rfl ?_
        refine w_callV C dX7_pliesFor_60 (c_X7_makes hl hI hR u (by omega) n (by omega)) mX7_makes vX7_makes lk_X7_275 (by first | assumption | exact Nat.zero_lt_one | exact Nat.zero_lt_two | exact Nat.one_lt_two) rfl rfl rfl rfl ⟨by decide, by decide, by decide, by decide⟩ (Nat.le_of_ble_eq_true rfl) (fun _ _ h => h.elim) ⟨by decide, by decide⟩ (fun r_ M_ q60 => ?_)
        obtain ⟨rfl, rfl⟩ := q60
        refine w_iload_n C dX7_pliesFor_63 rfl ?_
        refine w_icmp_ge C dX7_pliesFor_64 (by omega) (by omega) (fun h64 => ?_) (fun h64 => ?_)
        · exact K73 n (by omega) (Or.inl ⟨by omega, hmk.mp (by omega), hno⟩)
        · refine w_iinc C dX7_pliesFor_67 rfl (by decide) ?_
          refine w_goto C dX7_pliesFor_70 ?_
          exact Wm.lsub (lv' := [(0, aO 40 0), (1, aI u), (2, aI v), (3, aI ((n + 1 : Nat) : Int))]) ⟨rfl, rfl, rfl, rfl, trivial⟩ (ih (n + 1) (by omega) (fun k hk => by by_cases hkn : k = n; (rw [hkn]; exact fun q => absurd (hmk.mpr q) (by omega)); exact hno k (by omega)))
  refine w_aload_n C dX7_pliesFor_0 rfl ?_
  refine w_aload_n C dX7_pliesFor_1 rfl ?_
  refine w_iload_n C dX7_pliesFor_2 rfl ?_
  refine w_callV C dX7_pliesFor_3 (c_X7_isStyle hl hI.1 hR a ha) mX7_isStyle vX7_isStyle lk_X7_230 (by first | assumption | exact Nat.zero_lt_one | exact Nat.zero_lt_two | exact Nat.one_lt_two) rfl rfl rfl rfl ⟨by decide, by decide, by decide, by decide⟩ (Nat.le_of_ble_eq_true rfl) (fun _ _ h => h.elim) ⟨by decide, by decide⟩ (fun r_ M_ q3 => ?_)
  obtain ⟨rfl, rfl⟩ := q3
  refine w_if_ne C dX7_pliesFor_6 (by omega) (fun h6 => ?_) (fun h6 => ?_)
  · have y1 := b2_n0 h6
    refine w_iload_n C dX7_pliesFor_13 rfl ?_
    refine w_iconst C dX7_pliesFor_14 ?_
    refine w_bipush (v := 99) C dX7_pliesFor_15 rfl ?_
    refine w_callS C dX7_pliesFor_17 (c_X7_in hl g 1 99 (by omega) (by omega) (by omega)) mX7_in sX7_in lk_X7_122 rfl rfl ⟨by decide, by decide, by decide, by decide⟩ (Nat.le_of_ble_eq_true rfl) (fun _ _ h => h.elim) ⟨by decide, by decide⟩ (fun r_ M_ q17 => ?_)
    obtain ⟨rfl, rfl⟩ := q17
    refine w_if_ne C dX7_pliesFor_20 (by omega) (fun h20 => ?_) (fun h20 => ?_)
    · have y2 := b2_n0 h20
      obtain ⟨u, rfl⟩ := Int.eq_ofNat_of_zero_le y1.1
      obtain ⟨v, rfl⟩ := Int.eq_ofNat_of_zero_le (show 0 ≤ g by omega)
      have ht := tak_le hI.1 u
      refine w_aload_n C dX7_pliesFor_27 rfl ?_
      refine w_iload_n C dX7_pliesFor_28 rfl ?_
      refine w_callV C dX7_pliesFor_29 (c_X7_takenBy hl hI.1 hR u (by omega)) mX7_takenBy vX7_takenBy lk_X7_233 (by first | assumption | exact Nat.zero_lt_one | exact Nat.zero_lt_two | exact Nat.one_lt_two) rfl rfl rfl rfl ⟨by decide, by decide, by decide, by decide⟩ (Nat.le_of_ble_eq_true rfl) (fun _ _ h => h.elim) ⟨by decide, by decide⟩ (fun r_ M_ q29 => ?_)
      obtain ⟨rfl, rfl⟩ := q29
      refine w_if_ne C dX7_pliesFor_32 (by omega) (fun h32 => ?_) (fun h32 => ?_)
      · refine w_iconst C dX7_pliesFor_39 ?_
        refine w_callV C dX7_pliesFor_40 (c_X7_failsN hl 0 (by omega)) mX7_fails vX7_fails lk_X7_129 (by first | assumption | exact Nat.zero_lt_one | exact Nat.zero_lt_two | exact Nat.one_lt_two) rfl rfl rfl rfl ⟨by decide, by decide, by decide, by decide⟩ (Nat.le_of_ble_eq_true rfl) (fun _ _ h => h.elim) ⟨by decide, by decide⟩ (fun r_ MF q40 => ?_)
        obtain ⟨kF, kT, rfl⟩ := q40
        have hRF := hR.fr kF.fr
        refine w_if_eq_y C dX7_pliesFor_43 (by omega) (by decide) ?_
        refine w_iconst C dX7_pliesFor_48 ?_
        refine w_istore_n C dX7_pliesFor_49 (by decide) ?_
        exact Wm.lsub (lv' := [(0, aO 40 0), (1, aI u), (2, aI v), (3, aI ((0 : Nat) : Int))]) ⟨rfl, rfl, rfl, rfl, trivial⟩ (L u v rfl rfl (by omega) (by omega) (by omega) (by omega) _ hRF 401 0 (by omega) (fun k hk => absurd hk (Nat.not_lt_zero k)))
      · refine w_iconst C dX7_pliesFor_35 ?_
        refine w_goto C dX7_pliesFor_36 ?_
        refine w_callV C dX7_pliesFor_40 (c_X7_failsY hl 3 (by omega)) mX7_fails vX7_fails lk_X7_129 (by first | assumption | exact Nat.zero_lt_one | exact Nat.zero_lt_two | exact Nat.one_lt_two) rfl rfl rfl rfl ⟨by decide, by decide, by decide, by decide⟩ (Nat.le_of_ble_eq_true rfl) (fun _ _ h => h.elim) ⟨by decide, by decide⟩ (fun r_ MF q40 => ?_)
        obtain ⟨kF, kT, rfl⟩ := q40
        have hRF := hR.fr kF.fr
        refine w_if_eq_n C dX7_pliesFor_43 (by omega) (by decide) ?_
        refine w_iconst C dX7_pliesFor_46 ?_
        refine w_iret C hr dX7_pliesFor_47 rfl (by
            first
            | exact okM_no (i := 1) (v := 0) (by unfold oPliesFor; rw [if_pos y1]) (by decide) rfl kT hRF
            | exact okM_no (i := 2) (v := 0) (by unfold oPliesFor; rw [if_neg (by omega), if_pos y2]) (by decide) rfl kT hRF
            | exact okM_no (i := 3) (v := 0) (by unfold oPliesFor; rw [if_neg (by omega), if_neg (by omega), Int.toNat_natCast, if_pos (by omega)]) (by decide) rfl kT hRF) (by decide) (by decide)
    · have y2 := b2_is0 (Decidable.not_not.mp h20)
      refine w_iconst C dX7_pliesFor_23 ?_
      refine w_goto C dX7_pliesFor_24 ?_
      refine w_callV C dX7_pliesFor_40 (c_X7_failsY hl 2 (by omega)) mX7_fails vX7_fails lk_X7_129 (by first | assumption | exact Nat.zero_lt_one | exact Nat.zero_lt_two | exact Nat.one_lt_two) rfl rfl rfl rfl ⟨by decide, by decide, by decide, by decide⟩ (Nat.le_of_ble_eq_true rfl) (fun _ _ h => h.elim) ⟨by decide, by decide⟩ (fun r_ MF q40 => ?_)
      obtain ⟨kF, kT, rfl⟩ := q40
      have hRF := hR.fr kF.fr
      refine w_if_eq_n C dX7_pliesFor_43 (by omega) (by decide) ?_
      refine w_iconst C dX7_pliesFor_46 ?_
      refine w_iret C hr dX7_pliesFor_47 rfl (by
          first
          | exact okM_no (i := 1) (v := 0) (by unfold oPliesFor; rw [if_pos y1]) (by decide) rfl kT hRF
          | exact okM_no (i := 2) (v := 0) (by unfold oPliesFor; rw [if_neg (by omega), if_pos y2]) (by decide) rfl kT hRF
          | exact okM_no (i := 3) (v := 0) (by unfold oPliesFor; rw [if_neg (by omega), if_neg (by omega), Int.toNat_natCast, if_pos (by omega)]) (by decide) rfl kT hRF) (by decide) (by decide)
  · have y1 := b2_is0 (Decidable.not_not.mp h6)
    refine w_iconst C dX7_pliesFor_9 ?_
    refine w_goto C dX7_pliesFor_10 ?_
    refine w_callV C dX7_pliesFor_40 (c_X7_failsY hl 1 (by omega)) mX7_fails vX7_fails lk_X7_129 (by first | assumption | exact Nat.zero_lt_one | exact Nat.zero_lt_two | exact Nat.one_lt_two) rfl rfl rfl rfl ⟨by decide, by decide, by decide, by decide⟩ (Nat.le_of_ble_eq_true rfl) (fun _ _ h => h.elim) ⟨by decide, by decide⟩ (fun r_ MF q40 => ?_)
    obtain ⟨kF, kT, rfl⟩ := q40
    have hRF := hR.fr kF.fr
    refine w_if_eq_n C dX7_pliesFor_43 (by omega) (by decide) ?_
    refine w_iconst C dX7_pliesFor_46 ?_
    refine w_iret C hr dX7_pliesFor_47 rfl (by
        first
        | exact okM_no (i := 1) (v := 0) (by unfold oPliesFor; rw [if_pos y1]) (by decide) rfl kT hRF
        | exact okM_no (i := 2) (v := 0) (by unfold oPliesFor; rw [if_neg (by omega), if_pos y2]) (by decide) rfl kT hRF
        | exact okM_no (i := 3) (v := 0) (by unfold oPliesFor; rw [if_neg (by omega), if_neg (by omega), Int.toNat_natCast, if_pos (by omega)]) (by decide) rfl kT hRF) (by decide) (by decide)
end Mo
