/-! The memory by kinds: an object is (kind, number); its fields are numbers (Int), references (the number of an object of a known kind), longs, doubles. -/
abbrev AV : Type := Int ⊕ (Option (Nat × Nat)) ⊕ Int ⊕ UInt32 ⊕ UInt64
abbrev aI (x : Int) : AV := .inl x
abbrev aR (r : Option (Nat × Nat)) : AV := .inr (.inl r)
abbrev aO (k i : Nat) : AV := .inr (.inl (some (k, i)))
abbrev aN : AV := .inr (.inl none)
abbrev aL (x : Int) : AV := .inr (.inr (.inl x))
abbrev aF (x : UInt32) : AV := .inr (.inr (.inr (.inl x)))
abbrev aD (x : UInt64) : AV := .inr (.inr (.inr (.inr x)))
abbrev Ads : Type := Nat → Nat → Nat
def tv (ad : Ads) (v : AV) : Value := match v with
  | .inl x => .int (Int32.ofInt x)
  | .inr (.inl none) => .null
  | .inr (.inl (some p)) => .ref (ad p.1 p.2)
  | .inr (.inr (.inl x)) => .long (Int64.ofInt x)
  | .inr (.inr (.inr (.inl x))) => .float x
  | .inr (.inr (.inr (.inr x))) => .double x
def cat2 (v : AV) : Bool := match v with
  | .inr (.inr (.inl _)) => true
  | .inr (.inr (.inr (.inr _))) => true
  | _ => false
theorem tv_cat (ad : Ads) (v : AV) : ((tv ad v).category == 2) = cat2 v := by rcases v with x | (_ | p) | x | x | x <;> rfl
theorem tv_cat1 {ad : Ads} {v : AV} (h : cat2 v = false) : (tv ad v).category = 1 := by
  rcases v with x | (_ | p) | x | x | x <;> first | rfl | (exact absurd h (fun q => by cases q))
theorem tv_cat2 (ad : Ads) (v : AV) : (tv ad v).category = if cat2 v then 2 else 1 := by rcases v with x | (_ | p) | x | x | x <;> rfl
abbrev Lv : Type := List (Nat × AV)
def lget : Lv → Nat → Option AV
  | [], _ => none
  | q :: t, j => if q.1 = j then some q.2 else lget t j
def lset (lv : Lv) (i : Nat) (v : AV) : Lv := (i, v) :: lv.filter (fun q => !(q.1 == i) && !(q.1 + 1 == i && cat2 q.2))
def lset2 (lv : Lv) (i : Nat) (v : AV) : Lv := (i, v) :: lv.filter (fun q => !(q.1 == i) && (!(q.1 == i + 1) && !(q.1 + 1 == i && cat2 q.2)))
def lvm (ad : Ads) (lv : Lv) : List (Nat × Value) := lv.map fun q => (q.1, tv ad q.2)
def lsub (lv : Lv) : Lv → Prop
  | [] => True
  | q :: t => lget lv q.1 = some q.2 ∧ lsub lv t
theorem lget_mem : ∀ {lv : Lv} {j : Nat} {v : AV}, lget lv j = some v → (j, v) ∈ lv
  | [], _, _, h => by simp [lget] at h
  | q :: t, j, v, h => by
    unfold lget at h
    split at h
    · rename_i e
      cases h
      subst e
      exact List.mem_cons_self
    · exact List.mem_cons_of_mem _ (lget_mem h)
theorem lget_mapped {ad : Ads} {lv : Lv} {j : Nat} {v : AV} (h : lget lv j = some v) : (j, tv ad v) ∈ lvm ad lv := List.mem_map.mpr ⟨(j, v), lget_mem h, rfl⟩
theorem lget_has {ad : Ads} {ls : Array Slot} {nL : Nat} {lv : Lv} {j : Nat} {v : AV} (hl : lv_has ls nL (lvm ad lv)) (h : lget lv j = some v) : ls[j]? = some (.val (tv ad v)) := hl.2.2 (j, tv ad v) (lget_mapped h)
theorem lsub_mem {lv : Lv} : ∀ {lv' : Lv}, lsub lv lv' → ∀ q ∈ lv', lget lv q.1 = some q.2
  | [], _, q, hq => by cases hq
  | q0 :: t, h, q, hq => by
    rcases List.mem_cons.mp hq with e | e
    · rw [e]; exact h.1
    · exact lsub_mem h.2 q e
theorem lsub_has {ad : Ads} {ls : Array Slot} {nL : Nat} {lv lv' : Lv} (hl : lv_has ls nL (lvm ad lv)) (h : lsub lv lv') : lv_has ls nL (lvm ad lv') := by
  refine ⟨hl.1, hl.2.1, fun q hq => ?_⟩
  obtain ⟨q0, h0, rfl⟩ := List.mem_map.mp hq
  exact lget_has hl (lsub_mem h q0 h0)
theorem lvm_lset (ad : Ads) (lv : Lv) (i : Nat) (v : AV) : (i, tv ad v) :: (lvm ad lv).filter (fun q => !(q.1 == i) && !(q.1 + 1 == i && q.2.category == 2)) = lvm ad (lset lv i v) := by
  simp only [lvm, lset, List.map_cons, List.filter_map]
  congr 3
  funext q
  simp only [Function.comp, tv_cat]
theorem lvm_lset2 (ad : Ads) (lv : Lv) (i : Nat) (v : AV) : (i, tv ad v) :: (lvm ad lv).filter (fun q => !(q.1 == i) && (!(q.1 == i + 1) && !(q.1 + 1 == i && q.2.category == 2))) = lvm ad (lset2 lv i v) := by
  simp only [lvm, lset2, List.map_cons, List.filter_map]
  congr 3
  funext q
  simp only [Function.comp, tv_cat]
def avargs : Nat → List AV → Lv
  | _, [] => []
  | i, v :: t => (i, v) :: avargs (if cat2 v then i + 2 else i + 1) t
theorem avargs_lv (ad : Ads) : ∀ (vs : List AV) (i : Nat), lv_args i (vs.map (tv ad)) = lvm ad (avargs i vs)
  | [], _ => rfl
  | v :: t, i => by
    simp only [List.map_cons, lv_args, avargs, lvm]
    congr 1
    rw [avargs_lv ad t]
    have : (if (tv ad v).category = 2 then i + 2 else i + 1) = (if cat2 v = true then i + 2 else i + 1) := by
      have h := tv_cat ad v
      by_cases hc : cat2 v = true
      · rw [hc] at h
        rw [if_pos (by simpa using h), if_pos hc]
      · rw [Bool.not_eq_true] at hc
        rw [hc] at h
        rw [if_neg (by simpa using h), hc]
        rfl
    rw [this]
    rfl
/-! memory -/
abbrev Mem : Type := (Nat → Nat → Nat → Int) × (Nat → Nat → Nat → Option Nat) × (Nat → Nat → Nat → Int) × (Nat → Nat → Nat → UInt64)
def cellG (cA : Nat → ClassId) (ad : Ads) (k i : Nat) (f : Nat → Int) (g : Nat → Option Nat) (h : Nat → Int) (d : Nat → UInt64) : va_E := match k with
  | 0 => .inr (6, [.ref (ad 1 0), .ref (ad 2 0), .ref (ad 10 0), .int (Int32.ofInt (f 3)), .ref (ad 11 0), .int (Int32.ofInt (f 5)), .int (Int32.ofInt (f 6)), .ref (ad 2 1), .ref (ad 27 0), .ref (ad 28 0), .ref (ad 29 0)])
  | 1 => .inr (0, [.int (Int32.ofInt (f 0)), .int (Int32.ofInt (f 1)), .int (Int32.ofInt (f 2)), .int (Int32.ofInt (f 3)), .int (Int32.ofInt (f 4)), .ref (ad 20 0), .ref (ad 21 0)])
  | 2 => .inr (1, [.ref (ad 12 i), .int (Int32.ofInt (f 1)), .int (Int32.ofInt (f 2)), .ref (ad 22 i), .ref (ad 23 i), .ref (ad 24 i), .ref (ad 25 i), .ref (ad 26 i)])
  | 3 => .inr (3, [.int (Int32.ofInt (f 0)), va_rf ((g 1).map (ad 4)), va_rf ((g 2).map (ad 5)), .int (Int32.ofInt (f 3)), .int (Int32.ofInt (f 4)), .int (Int32.ofInt (f 5)), .int (Int32.ofInt (f 6))])
  | 4 => .inr (4, [.int (Int32.ofInt (f 0)), .int (Int32.ofInt (f 1)), .ref (ad 30 i), .ref (ad 13 i), .int (Int32.ofInt (f 4)), .int (Int32.ofInt (f 5)), .int (Int32.ofInt (f 6)), .int (Int32.ofInt (f 7)), .int (Int32.ofInt (f 8)), .int (Int32.ofInt (f 9)), .long (Int64.ofInt (h 10))])
  | 5 => .inr (2, [.int (Int32.ofInt (f 0)), .int (Int32.ofInt (f 1)), .ref (ad 31 i), .int (Int32.ofInt (f 3)), .int (Int32.ofInt (f 4)), .int (Int32.ofInt (f 5))])
  | 6 => .inr (5, [.ref (ad 32 i), .int (Int32.ofInt (f 1))])
  | 10 => .inl (cA 5, 8, .inr (.inr (.inr (.inr (fun j => (g j).map (ad 4))))))
  | 11 => .inl (cA 6, 4, .inr (.inr (.inr (.inr (fun j => (g j).map (ad 6))))))
  | 12 => .inl (cA 7, 40, .inr (.inr (.inr (.inr (fun j => (g j).map (ad 3))))))
  | 13 => .inl (cA 8, 8, .inr (.inr (.inr (.inr (fun j => (g j).map (ad 5))))))
  | 20 => .inl (cA 0, 60, .inl (fun j => Int32.ofInt (f j)))
  | 21 => .inl (cA 0, 60, .inl (fun j => Int32.ofInt (f j)))
  | 22 => .inl (cA 0, 720, .inl (fun j => Int32.ofInt (f j)))
  | 23 => .inl (cA 0, 60, .inl (fun j => Int32.ofInt (f j)))
  | 24 => .inl (cA 0, 4, .inl (fun j => Int32.ofInt (f j)))
  | 25 => .inl (cA 0, 4, .inl (fun j => Int32.ofInt (f j)))
  | 26 => .inl (cA 0, 60, .inl (fun j => Int32.ofInt (f j)))
  | 27 => .inl (cA 0, 16, .inl (fun j => Int32.ofInt (f j)))
  | 28 => .inl (cA 0, 4, .inl (fun j => Int32.ofInt (f j)))
  | 29 => .inl (cA 0, 16, .inl (fun j => Int32.ofInt (f j)))
  | 30 => .inl (cA 0, 5, .inl (fun j => Int32.ofInt (f j)))
  | 31 => .inl (cA 0, 5, .inl (fun j => Int32.ofInt (f j)))
  | 32 => .inl (cA 0, 8, .inl (fun j => Int32.ofInt (f j)))
  | 40 => .inr (7, [.int (Int32.ofInt (f 0)), .int (Int32.ofInt (f 1)), .int (Int32.ofInt (f 2)), .int (Int32.ofInt (f 3)), .int (Int32.ofInt (f 4)), .int (Int32.ofInt (f 5)), .ref (ad 41 0), .int (Int32.ofInt (f 7)), .ref (ad 47 0), .ref (ad 42 0), .ref (ad 43 0), .ref (ad 48 0), .ref (ad 49 0), .ref (ad 50 0), .ref (ad 51 0), .ref (ad 44 0), .ref (ad 52 0), .int (Int32.ofInt (f 17)), .int (Int32.ofInt (f 18)), .ref (ad 53 0), .ref (ad 54 0), .ref (ad 55 0), .ref (ad 56 0), .ref (ad 57 0), .ref (ad 45 0), .ref (ad 58 0), .ref (ad 59 0), .ref (ad 60 0), .int (Int32.ofInt (f 28)), .ref (ad 61 0), .ref (ad 62 0), .int (Int32.ofInt (f 31)), .long (Int64.ofInt (h 32)), .int (Int32.ofInt (f 33)), .ref (ad 63 0), .ref (ad 64 0), .int (Int32.ofInt (f 36)), .int (Int32.ofInt (f 37)), .int (Int32.ofInt (f 38)), .int (Int32.ofInt (f 39)), .ref (ad 65 0), .int (Int32.ofInt (f 41)), .ref (ad 66 0), .ref (ad 67 0), .ref (ad 68 0), .ref (ad 69 0), .ref (ad 70 0), .ref (ad 46 0), .int (Int32.ofInt (f 48))])
  | 41 => .inl (cA 1, 720, .inl (fun j => Int32.ofInt (f j)))
  | 42 => .inl (cA 1, 8, .inl (fun j => Int32.ofInt (f j)))
  | 43 => .inl (cA 1, 200, .inl (fun j => Int32.ofInt (f j)))
  | 44 => .inl (cA 1, 8, .inl (fun j => Int32.ofInt (f j)))
  | 45 => .inl (cA 1, 40, .inl (fun j => Int32.ofInt (f j)))
  | 46 => .inl (cA 1, 40, .inl (fun j => Int32.ofInt (f j)))
  | 47 => .inl (cA 2, 8, .inl (fun j => Int32.ofInt (f j)))
  | 48 => .inl (cA 0, 8, .inl (fun j => Int32.ofInt (f j)))
  | 49 => .inl (cA 0, 8, .inl (fun j => Int32.ofInt (f j)))
  | 50 => .inl (cA 0, 8, .inl (fun j => Int32.ofInt (f j)))
  | 51 => .inl (cA 0, 8, .inl (fun j => Int32.ofInt (f j)))
  | 52 => .inl (cA 0, 16, .inl (fun j => Int32.ofInt (f j)))
  | 53 => .inl (cA 0, 40, .inl (fun j => Int32.ofInt (f j)))
  | 54 => .inl (cA 0, 40, .inl (fun j => Int32.ofInt (f j)))
  | 55 => .inl (cA 0, 40, .inl (fun j => Int32.ofInt (f j)))
  | 56 => .inl (cA 0, 40, .inl (fun j => Int32.ofInt (f j)))
  | 57 => .inl (cA 0, 40, .inl (fun j => Int32.ofInt (f j)))
  | 58 => .inl (cA 0, 720, .inl (fun j => Int32.ofInt (f j)))
  | 59 => .inl (cA 0, 4, .inl (fun j => Int32.ofInt (f j)))
  | 60 => .inl (cA 0, 4, .inl (fun j => Int32.ofInt (f j)))
  | 61 => .inl (cA 0, 32, .inl (fun j => Int32.ofInt (f j)))
  | 62 => .inl (cA 0, 4, .inl (fun j => Int32.ofInt (f j)))
  | 63 => .inl (cA 0, 25, .inl (fun j => Int32.ofInt (f j)))
  | 64 => .inl (cA 0, 25, .inl (fun j => Int32.ofInt (f j)))
  | 65 => .inl (cA 0, 4, .inl (fun j => Int32.ofInt (f j)))
  | 66 => .inl (cA 0, 40, .inl (fun j => Int32.ofInt (f j)))
  | 67 => .inl (cA 0, 40, .inl (fun j => Int32.ofInt (f j)))
  | 68 => .inl (cA 0, 40, .inl (fun j => Int32.ofInt (f j)))
  | 69 => .inl (cA 0, 40, .inl (fun j => Int32.ofInt (f j)))
  | 70 => .inl (cA 0, 40, .inl (fun j => Int32.ofInt (f j)))
  | 80 => .inl (cA 3, 1, .inr (.inl (fun j => Int64.ofInt (h j))))
  | 81 => .inl (cA 4, 1, .inr (.inr (.inr (.inl d))))
  | 90 => .inr (0, [.int (Int32.ofInt (f 0)), .int (Int32.ofInt (f 1)), .int (Int32.ofInt (f 2)), .int (Int32.ofInt (f 3)), .int (Int32.ofInt (f 4)), va_rf ((g 5).map (ad 20)), va_rf ((g 6).map (ad 21))])
  | 91 => .inr (1, [va_rf ((g 0).map (ad 12)), .int (Int32.ofInt (f 1)), .int (Int32.ofInt (f 2)), va_rf ((g 3).map (ad 22)), va_rf ((g 4).map (ad 23)), va_rf ((g 5).map (ad 24)), va_rf ((g 6).map (ad 25)), va_rf ((g 7).map (ad 26))])
  | 92 => .inr (2, [.int (Int32.ofInt (f 0)), .int (Int32.ofInt (f 1)), va_rf ((g 2).map (ad 31)), .int (Int32.ofInt (f 3)), .int (Int32.ofInt (f 4)), .int (Int32.ofInt (f 5))])
  | 94 => .inr (4, [.int (Int32.ofInt (f 0)), .int (Int32.ofInt (f 1)), va_rf ((g 2).map (ad 30)), va_rf ((g 3).map (ad 13)), .int (Int32.ofInt (f 4)), .int (Int32.ofInt (f 5)), .int (Int32.ofInt (f 6)), .int (Int32.ofInt (f 7)), .int (Int32.ofInt (f 8)), .int (Int32.ofInt (f 9)), .long (Int64.ofInt (h 10))])
  | 95 => .inr (5, [va_rf ((g 0).map (ad 32)), .int (Int32.ofInt (f 1))])
  | 96 => .inr (6, [va_rf ((g 0).map (ad 1)), va_rf ((g 1).map (ad 2)), va_rf ((g 2).map (ad 10)), .int (Int32.ofInt (f 3)), va_rf ((g 4).map (ad 11)), .int (Int32.ofInt (f 5)), .int (Int32.ofInt (f 6)), va_rf ((g 7).map (ad 2)), va_rf ((g 8).map (ad 27)), va_rf ((g 9).map (ad 28)), va_rf ((g 10).map (ad 29))])
  | 97 => .inr (7, [.int (Int32.ofInt (f 0)), .int (Int32.ofInt (f 1)), .int (Int32.ofInt (f 2)), .int (Int32.ofInt (f 3)), .int (Int32.ofInt (f 4)), .int (Int32.ofInt (f 5)), va_rf ((g 6).map (ad 41)), .int (Int32.ofInt (f 7)), va_rf ((g 8).map (ad 47)), va_rf ((g 9).map (ad 42)), va_rf ((g 10).map (ad 43)), va_rf ((g 11).map (ad 48)), va_rf ((g 12).map (ad 49)), va_rf ((g 13).map (ad 50)), va_rf ((g 14).map (ad 51)), va_rf ((g 15).map (ad 44)), va_rf ((g 16).map (ad 52)), .int (Int32.ofInt (f 17)), .int (Int32.ofInt (f 18)), va_rf ((g 19).map (ad 53)), va_rf ((g 20).map (ad 54)), va_rf ((g 21).map (ad 55)), va_rf ((g 22).map (ad 56)), va_rf ((g 23).map (ad 57)), va_rf ((g 24).map (ad 45)), va_rf ((g 25).map (ad 58)), va_rf ((g 26).map (ad 59)), va_rf ((g 27).map (ad 60)), .int (Int32.ofInt (f 28)), va_rf ((g 29).map (ad 61)), va_rf ((g 30).map (ad 62)), .int (Int32.ofInt (f 31)), .long (Int64.ofInt (h 32)), .int (Int32.ofInt (f 33)), va_rf ((g 34).map (ad 63)), va_rf ((g 35).map (ad 64)), .int (Int32.ofInt (f 36)), .int (Int32.ofInt (f 37)), .int (Int32.ofInt (f 38)), .int (Int32.ofInt (f 39)), va_rf ((g 40).map (ad 65)), .int (Int32.ofInt (f 41)), va_rf ((g 42).map (ad 66)), va_rf ((g 43).map (ad 67)), va_rf ((g 44).map (ad 68)), va_rf ((g 45).map (ad 69)), va_rf ((g 46).map (ad 70)), va_rf ((g 47).map (ad 46)), .int (Int32.ofInt (f 48))])
  | _ => .inl (cA 0, 0, .inl (fun _ => 0))
def fT (k i : Nat) : List (Nat × Nat) := match k with
  | 0 => [(1, 0), (2, 0), (10, 0), (11, 0), (2, 1), (27, 0), (28, 0), (29, 0)]
  | 1 => [(20, 0), (21, 0)]
  | 2 => [(12, i), (22, i), (23, i), (24, i), (25, i), (26, i)]
  | 4 => [(30, i), (13, i)]
  | 5 => [(31, i)]
  | 6 => [(32, i)]
  | 40 => [(41, 0), (47, 0), (42, 0), (43, 0), (48, 0), (49, 0), (50, 0), (51, 0), (44, 0), (52, 0), (53, 0), (54, 0), (55, 0), (56, 0), (57, 0), (45, 0), (58, 0), (59, 0), (60, 0), (61, 0), (62, 0), (63, 0), (64, 0), (65, 0), (66, 0), (67, 0), (68, 0), (69, 0), (70, 0), (46, 0)]
  | _ => []
def tgK (k s : Nat) : Option Nat := match k with
  | 3 => match s with
    | 1 => some 4
    | 2 => some 5
    | _ => none
  | 10 => some 4
  | 11 => some 6
  | 12 => some 3
  | 13 => some 5
  | 90 => match s with
    | 5 => some 20
    | 6 => some 21
    | _ => none
  | 91 => match s with
    | 0 => some 12
    | 3 => some 22
    | 4 => some 23
    | 5 => some 24
    | 6 => some 25
    | 7 => some 26
    | _ => none
  | 92 => match s with
    | 2 => some 31
    | _ => none
  | 94 => match s with
    | 2 => some 30
    | 3 => some 13
    | _ => none
  | 95 => match s with
    | 0 => some 32
    | _ => none
  | 96 => match s with
    | 0 => some 1
    | 1 => some 2
    | 2 => some 10
    | 4 => some 11
    | 7 => some 2
    | 8 => some 27
    | 9 => some 28
    | 10 => some 29
    | _ => none
  | 97 => match s with
    | 6 => some 41
    | 8 => some 47
    | 9 => some 42
    | 10 => some 43
    | 11 => some 48
    | 12 => some 49
    | 13 => some 50
    | 14 => some 51
    | 15 => some 44
    | 16 => some 52
    | 19 => some 53
    | 20 => some 54
    | 21 => some 55
    | 22 => some 56
    | 23 => some 57
    | 24 => some 45
    | 25 => some 58
    | 26 => some 59
    | 27 => some 60
    | 29 => some 61
    | 30 => some 62
    | 34 => some 63
    | 35 => some 64
    | 40 => some 65
    | 42 => some 66
    | 43 => some 67
    | 44 => some 68
    | 45 => some 69
    | 46 => some 70
    | 47 => some 46
    | _ => none
  | _ => none
theorem mp_ag {g : Nat → Option Nat} {ad ad' : Ads} {s t : Nat} (h : ∀ j, g s = some j → ad' t j = ad t j) : (g s).map (ad' t) = (g s).map (ad t) := by
  cases hg : g s with
  | none => rfl
  | some j => exact congrArg some (h j hg)
/-- what a cell holds depends on the addresses of what it refers to -/
theorem cG_ag {cA : Nat → ClassId} {ad ad' : Ads} {k i : Nat} {f : Nat → Int} {g : Nat → Option Nat} {h : Nat → Int} {d : Nat → UInt64} (hF : ∀ q ∈ fT k i, ad' q.1 q.2 = ad q.1 q.2) (hV : ∀ s t, tgK k s = some t → ∀ j, g s = some j → ad' t j = ad t j) : cellG cA ad' k i f g h d = cellG cA ad k i f g h d := by
  unfold cellG
  split
  · rw [hF (1, 0) (by simp [fT]), hF (2, 0) (by simp [fT]), hF (10, 0) (by simp [fT]), hF (11, 0) (by simp [fT]), hF (2, 1) (by simp [fT]), hF (27, 0) (by simp [fT]), hF (28, 0) (by simp [fT]), hF (29, 0) (by simp [fT])]
  · rw [hF (20, 0) (by simp [fT]), hF (21, 0) (by simp [fT])]
  · rw [hF (12, i) (by simp [fT]), hF (22, i) (by simp [fT]), hF (23, i) (by simp [fT]), hF (24, i) (by simp [fT]), hF (25, i) (by simp [fT]), hF (26, i) (by simp [fT])]
  · rw [mp_ag (hV 1 4 rfl), mp_ag (hV 2 5 rfl)]
  · rw [hF (30, i) (by simp [fT]), hF (13, i) (by simp [fT])]
  · rw [hF (31, i) (by simp [fT])]
  · rw [hF (32, i) (by simp [fT])]
  · refine congrArg Sum.inl (congrArg (Prod.mk _) (congrArg (Prod.mk _) (congrArg Sum.inr (congrArg Sum.inr (congrArg Sum.inr (congrArg Sum.inr (funext fun j => mp_ag (hV j 4 rfl))))))))
  · refine congrArg Sum.inl (congrArg (Prod.mk _) (congrArg (Prod.mk _) (congrArg Sum.inr (congrArg Sum.inr (congrArg Sum.inr (congrArg Sum.inr (funext fun j => mp_ag (hV j 6 rfl))))))))
  · refine congrArg Sum.inl (congrArg (Prod.mk _) (congrArg (Prod.mk _) (congrArg Sum.inr (congrArg Sum.inr (congrArg Sum.inr (congrArg Sum.inr (funext fun j => mp_ag (hV j 3 rfl))))))))
  · refine congrArg Sum.inl (congrArg (Prod.mk _) (congrArg (Prod.mk _) (congrArg Sum.inr (congrArg Sum.inr (congrArg Sum.inr (congrArg Sum.inr (funext fun j => mp_ag (hV j 5 rfl))))))))
  · rfl
  · rfl
  · rfl
  · rfl
  · rfl
  · rfl
  · rfl
  · rfl
  · rfl
  · rfl
  · rfl
  · rfl
  · rfl
  · rw [hF (41, 0) (by simp [fT]), hF (47, 0) (by simp [fT]), hF (42, 0) (by simp [fT]), hF (43, 0) (by simp [fT]), hF (48, 0) (by simp [fT]), hF (49, 0) (by simp [fT]), hF (50, 0) (by simp [fT]), hF (51, 0) (by simp [fT]), hF (44, 0) (by simp [fT]), hF (52, 0) (by simp [fT]), hF (53, 0) (by simp [fT]), hF (54, 0) (by simp [fT]), hF (55, 0) (by simp [fT]), hF (56, 0) (by simp [fT]), hF (57, 0) (by simp [fT]), hF (45, 0) (by simp [fT]), hF (58, 0) (by simp [fT]), hF (59, 0) (by simp [fT]), hF (60, 0) (by simp [fT]), hF (61, 0) (by simp [fT]), hF (62, 0) (by simp [fT]), hF (63, 0) (by simp [fT]), hF (64, 0) (by simp [fT]), hF (65, 0) (by simp [fT]), hF (66, 0) (by simp [fT]), hF (67, 0) (by simp [fT]), hF (68, 0) (by simp [fT]), hF (69, 0) (by simp [fT]), hF (70, 0) (by simp [fT]), hF (46, 0) (by simp [fT])]
  · rfl
  · rfl
  · rfl
  · rfl
  · rfl
  · rfl
  · rfl
  · rfl
  · rfl
  · rfl
  · rfl
  · rfl
  · rfl
  · rfl
  · rfl
  · rfl
  · rfl
  · rfl
  · rfl
  · rfl
  · rfl
  · rfl
  · rfl
  · rfl
  · rfl
  · rfl
  · rfl
  · rfl
  · rfl
  · rfl
  · rfl
  · rfl
  · rw [mp_ag (hV 5 20 rfl), mp_ag (hV 6 21 rfl)]
  · rw [mp_ag (hV 0 12 rfl), mp_ag (hV 3 22 rfl), mp_ag (hV 4 23 rfl), mp_ag (hV 5 24 rfl), mp_ag (hV 6 25 rfl), mp_ag (hV 7 26 rfl)]
  · rw [mp_ag (hV 2 31 rfl)]
  · rw [mp_ag (hV 2 30 rfl), mp_ag (hV 3 13 rfl)]
  · rw [mp_ag (hV 0 32 rfl)]
  · rw [mp_ag (hV 0 1 rfl), mp_ag (hV 1 2 rfl), mp_ag (hV 2 10 rfl), mp_ag (hV 4 11 rfl), mp_ag (hV 7 2 rfl), mp_ag (hV 8 27 rfl), mp_ag (hV 9 28 rfl), mp_ag (hV 10 29 rfl)]
  · rw [mp_ag (hV 6 41 rfl), mp_ag (hV 8 47 rfl), mp_ag (hV 9 42 rfl), mp_ag (hV 10 43 rfl), mp_ag (hV 11 48 rfl), mp_ag (hV 12 49 rfl), mp_ag (hV 13 50 rfl), mp_ag (hV 14 51 rfl), mp_ag (hV 15 44 rfl), mp_ag (hV 16 52 rfl), mp_ag (hV 19 53 rfl), mp_ag (hV 20 54 rfl), mp_ag (hV 21 55 rfl), mp_ag (hV 22 56 rfl), mp_ag (hV 23 57 rfl), mp_ag (hV 24 45 rfl), mp_ag (hV 25 58 rfl), mp_ag (hV 26 59 rfl), mp_ag (hV 27 60 rfl), mp_ag (hV 29 61 rfl), mp_ag (hV 30 62 rfl), mp_ag (hV 34 63 rfl), mp_ag (hV 35 64 rfl), mp_ag (hV 40 65 rfl), mp_ag (hV 42 66 rfl), mp_ag (hV 43 67 rfl), mp_ag (hV 44 68 rfl), mp_ag (hV 45 69 rfl), mp_ag (hV 46 70 rfl), mp_ag (hV 47 46 rfl)]
  · rfl

def cnt (ns nt : Nat) (k : Nat) : Nat := match k with
  | 0 => 1
  | 1 => 1
  | 10 => 1
  | 11 => 1
  | 20 => 1
  | 21 => 1
  | 27 => 1
  | 28 => 1
  | 29 => 1
  | 80 => 1
  | 81 => 1
  | 2 => 2
  | 12 => 2
  | 22 => 2
  | 23 => 2
  | 24 => 2
  | 25 => 2
  | 26 => 2
  | 3 => 80
  | 4 => ns
  | 13 => ns
  | 30 => ns
  | 5 => 8 * ns
  | 31 => 8 * ns
  | 6 => nt
  | 32 => nt
  | _ => 0
def cntM (k : Nat) : Nat := match k with
  | 40 => 1
  | 41 => 1
  | 42 => 1
  | 43 => 1
  | 44 => 1
  | 45 => 1
  | 46 => 1
  | 47 => 1
  | 48 => 1
  | 49 => 1
  | 50 => 1
  | 51 => 1
  | 52 => 1
  | 53 => 1
  | 54 => 1
  | 55 => 1
  | 56 => 1
  | 57 => 1
  | 58 => 1
  | 59 => 1
  | 60 => 1
  | 61 => 1
  | 62 => 1
  | 63 => 1
  | 64 => 1
  | 65 => 1
  | 66 => 1
  | 67 => 1
  | 68 => 1
  | 69 => 1
  | 70 => 1
  | _ => 0
def inD (cn : Nat → Nat) (k i : Nat) : Prop := i < cn k

def strL : List (String × Nat × String) := [("CuttingRoom", 54, "the width or the stripe number is out of range"), ("CuttingRoom", 68, "the marker is not empty, or there are flaws"), ("CuttingRoom", 81, "the marker is not empty"), ("CuttingRoom", 90, "there is no such cell"), ("CuttingRoom", 98, "a piece of the marker would be on the flaw"), ("CuttingRoom", 104, "there are 12 flaws"), ("CuttingRoom", 121, "there is no such rule"), ("CuttingRoom", 126, "there are 8 shapes"), ("CuttingRoom", 174, "there is no such shape"), ("CuttingRoom", 135, "the row or the column is out of range"), ("CuttingRoom", 140, "the shape has this cell"), ("CuttingRoom", 150, "a piece of the shape is in the marker or was cut"), ("CuttingRoom", 158, "the group, the row or the column is out of range"), ("CuttingRoom", 160, "a piece of the shape is in the marker"), ("CuttingRoom", 197, "the number of turns is out of range"), ("CuttingRoom", 185, "the piece cannot be laid"), ("CuttingRoom", 191, "there are 40 pieces in the marker"), ("CuttingRoom", 205, "the piece can be laid nowhere"), ("CuttingRoom", 240, "there is no such piece in the marker"), ("CuttingRoom", 251, "no piece has this cell"), ("CuttingRoom", 256, "there is no such group"), ("CuttingRoom", 268, "there are no stripes, or no piece is of the group"), ("CuttingRoom", 276, "there are 4 styles"), ("CuttingRoom", 301, "there is no such style"), ("CuttingRoom", 283, "the count is out of range"), ("CuttingRoom", 291, "the style has this part, or a garment of it was made"), ("CuttingRoom", 344, "more than 4 pieces would be nested, or none"), ("CuttingRoom", 332, "the pieces can be nested in no order"), ("CuttingRoom", 360, "the length is out of range, or the roll would be too long"), ("CuttingRoom", 362, "the number of plies is out of range"), ("CuttingRoom", 364, "the marker is empty"), ("CuttingRoom", 370, "the roll is too short, or the stock would be too large"), ("CuttingRoom", 392, "a single shape has no mirrored pieces"), ("CuttingRoom", 306, "the style has no parts"), ("CuttingRoom", 422, "the number of garments is out of range"), ("CuttingRoom", 417, "there are too few pieces"), ("CuttingRoom", 428, "no number of plies is enough")]
def nestL : List (String × Nat × MethodName × String) := [("CuttingRoom$Cloth", 38, ⟨"CuttingRoom", "entry", "([II)I"⟩, "CuttingRoom"), ("CuttingRoom$Cloth", 42, ⟨"CuttingRoom", "hasBit", "(II)Z"⟩, "CuttingRoom"), ("CuttingRoom$Cloth", 46, ⟨"CuttingRoom", "store", "([III)V"⟩, "CuttingRoom"), ("CuttingRoom$Marker", 110, ⟨"CuttingRoom", "entry", "([II)I"⟩, "CuttingRoom"), ("CuttingRoom$Marker", 160, ⟨"CuttingRoom", "store", "([III)V"⟩, "CuttingRoom"), ("CuttingRoom$Shape", 36, ⟨"CuttingRoom", "entry", "([II)I"⟩, "CuttingRoom"), ("CuttingRoom$Shape", 40, ⟨"CuttingRoom", "hasBit", "(II)Z"⟩, "CuttingRoom"), ("CuttingRoom$Shape", 44, ⟨"CuttingRoom", "store", "([III)V"⟩, "CuttingRoom"), ("CuttingRoom$Outline", 29, ⟨"CuttingRoom", "entry", "([II)I"⟩, "CuttingRoom"), ("CuttingRoom$Outline", 33, ⟨"CuttingRoom", "hasBit", "(II)Z"⟩, "CuttingRoom"), ("CuttingRoom$Outline", 44, ⟨"CuttingRoom", "store", "([III)V"⟩, "CuttingRoom"), ("CuttingRoom$Outline", 48, ⟨"CuttingRoom", "firstBit", "(I)I"⟩, "CuttingRoom"), ("CuttingRoom$Outline", 52, ⟨"CuttingRoom", "endOfBits", "(I)I"⟩, "CuttingRoom"), ("CuttingRoom$Cloth", 71, ⟨"CuttingRoom", "isWithin", "(III)Z"⟩, "CuttingRoom"), ("CuttingRoom$Marker", 164, ⟨"CuttingRoom", "hasBit", "(II)Z"⟩, "CuttingRoom"), ("CuttingRoom$Outline", 64, ⟨"CuttingRoom", "isWithin", "(III)Z"⟩, "CuttingRoom")]
def castL : List (String × String) := [("java/lang/IllegalArgumentException", "java/lang/IllegalArgumentException"), ("java/lang/IllegalStateException", "java/lang/IllegalStateException"), ("java/lang/UnsupportedOperationException", "java/lang/UnsupportedOperationException"), ("java/lang/ArrayIndexOutOfBoundsException", "java/lang/ArrayIndexOutOfBoundsException"), ("java/lang/IndexOutOfBoundsException", "java/lang/IndexOutOfBoundsException"), ("java/util/NoSuchElementException", "java/util/NoSuchElementException"), ("java/lang/ArithmeticException", "java/lang/ArithmeticException"), ("java/lang/ArrayIndexOutOfBoundsException", "java/lang/IndexOutOfBoundsException"), ("CuttingRoom", "java/lang/Object"), ("CuttingRoom$Cloth", "java/lang/Object"), ("CuttingRoom$Marker", "java/lang/Object"), ("CuttingRoom$Piece", "java/lang/Object"), ("CuttingRoomModel", "java/lang/Object"), ("java/lang/IllegalArgumentException", "java/lang/Object"), ("java/lang/IllegalStateException", "java/lang/Object"), ("java/lang/UnsupportedOperationException", "java/lang/Object"), ("CuttingRoom$Shape", "java/lang/Object"), ("CuttingRoom$Outline", "java/lang/Object"), ("java/lang/ArrayIndexOutOfBoundsException", "java/lang/Object"), ("java/lang/IndexOutOfBoundsException", "java/lang/Object"), ("java/util/NoSuchElementException", "java/lang/Object"), ("CuttingRoom$Style", "java/lang/Object"), ("java/lang/ArithmeticException", "java/lang/Object"), ("java/lang/Throwable", "java/lang/Object"), ("java/lang/String", "java/lang/Object")]
def declL : List MethodName := [⟨"java/lang/RuntimeException", "<init>", "(Ljava/lang/String;)V"⟩, ⟨"java/lang/Exception", "<init>", "(Ljava/lang/String;)V"⟩, ⟨"java/lang/Throwable", "<init>", "(Ljava/lang/String;)V"⟩, ⟨"java/lang/IndexOutOfBoundsException", "<init>", "(Ljava/lang/String;)V"⟩]
def ncL : List (String × String) := [("CuttingRoom", "java/lang/IllegalArgumentException"), ("CuttingRoom$Cloth", "java/lang/IllegalArgumentException"), ("CuttingRoom$Marker", "java/lang/IllegalArgumentException"), ("CuttingRoom$Piece", "java/lang/IllegalArgumentException"), ("CuttingRoomModel", "java/lang/IllegalArgumentException"), ("java/lang/IllegalStateException", "java/lang/IllegalArgumentException"), ("java/lang/UnsupportedOperationException", "java/lang/IllegalArgumentException"), ("CuttingRoom$Shape", "java/lang/IllegalArgumentException"), ("CuttingRoom$Outline", "java/lang/IllegalArgumentException"), ("java/lang/ArrayIndexOutOfBoundsException", "java/lang/IllegalArgumentException"), ("java/lang/IndexOutOfBoundsException", "java/lang/IllegalArgumentException"), ("java/util/NoSuchElementException", "java/lang/IllegalArgumentException"), ("CuttingRoom$Style", "java/lang/IllegalArgumentException"), ("java/lang/ArithmeticException", "java/lang/IllegalArgumentException"), ("CuttingRoom", "java/lang/IllegalStateException"), ("CuttingRoom$Cloth", "java/lang/IllegalStateException"), ("CuttingRoom$Marker", "java/lang/IllegalStateException"), ("CuttingRoom$Piece", "java/lang/IllegalStateException"), ("CuttingRoomModel", "java/lang/IllegalStateException"), ("java/lang/IllegalArgumentException", "java/lang/IllegalStateException"), ("java/lang/UnsupportedOperationException", "java/lang/IllegalStateException"), ("CuttingRoom$Shape", "java/lang/IllegalStateException"), ("CuttingRoom$Outline", "java/lang/IllegalStateException"), ("java/lang/ArrayIndexOutOfBoundsException", "java/lang/IllegalStateException"), ("java/lang/IndexOutOfBoundsException", "java/lang/IllegalStateException"), ("java/util/NoSuchElementException", "java/lang/IllegalStateException"), ("CuttingRoom$Style", "java/lang/IllegalStateException"), ("java/lang/ArithmeticException", "java/lang/IllegalStateException"), ("CuttingRoom", "java/lang/UnsupportedOperationException"), ("CuttingRoom$Cloth", "java/lang/UnsupportedOperationException"), ("CuttingRoom$Marker", "java/lang/UnsupportedOperationException"), ("CuttingRoom$Piece", "java/lang/UnsupportedOperationException"), ("CuttingRoomModel", "java/lang/UnsupportedOperationException"), ("java/lang/IllegalArgumentException", "java/lang/UnsupportedOperationException"), ("java/lang/IllegalStateException", "java/lang/UnsupportedOperationException"), ("CuttingRoom$Shape", "java/lang/UnsupportedOperationException"), ("CuttingRoom$Outline", "java/lang/UnsupportedOperationException"), ("java/lang/ArrayIndexOutOfBoundsException", "java/lang/UnsupportedOperationException"), ("java/lang/IndexOutOfBoundsException", "java/lang/UnsupportedOperationException"), ("java/util/NoSuchElementException", "java/lang/UnsupportedOperationException"), ("CuttingRoom$Style", "java/lang/UnsupportedOperationException"), ("java/lang/ArithmeticException", "java/lang/UnsupportedOperationException"), ("CuttingRoom", "java/lang/IndexOutOfBoundsException"), ("CuttingRoom$Cloth", "java/lang/IndexOutOfBoundsException"), ("CuttingRoom$Marker", "java/lang/IndexOutOfBoundsException"), ("CuttingRoom$Piece", "java/lang/IndexOutOfBoundsException"), ("CuttingRoomModel", "java/lang/IndexOutOfBoundsException"), ("java/lang/IllegalArgumentException", "java/lang/IndexOutOfBoundsException"), ("java/lang/IllegalStateException", "java/lang/IndexOutOfBoundsException"), ("java/lang/UnsupportedOperationException", "java/lang/IndexOutOfBoundsException"), ("CuttingRoom$Shape", "java/lang/IndexOutOfBoundsException"), ("CuttingRoom$Outline", "java/lang/IndexOutOfBoundsException"), ("java/util/NoSuchElementException", "java/lang/IndexOutOfBoundsException"), ("CuttingRoom$Style", "java/lang/IndexOutOfBoundsException"), ("java/lang/ArithmeticException", "java/lang/IndexOutOfBoundsException"), ("CuttingRoom", "java/util/NoSuchElementException"), ("CuttingRoom$Cloth", "java/util/NoSuchElementException"), ("CuttingRoom$Marker", "java/util/NoSuchElementException"), ("CuttingRoom$Piece", "java/util/NoSuchElementException"), ("CuttingRoomModel", "java/util/NoSuchElementException"), ("java/lang/IllegalArgumentException", "java/util/NoSuchElementException"), ("java/lang/IllegalStateException", "java/util/NoSuchElementException"), ("java/lang/UnsupportedOperationException", "java/util/NoSuchElementException"), ("CuttingRoom$Shape", "java/util/NoSuchElementException"), ("CuttingRoom$Outline", "java/util/NoSuchElementException"), ("java/lang/ArrayIndexOutOfBoundsException", "java/util/NoSuchElementException"), ("java/lang/IndexOutOfBoundsException", "java/util/NoSuchElementException"), ("CuttingRoom$Style", "java/util/NoSuchElementException"), ("java/lang/ArithmeticException", "java/util/NoSuchElementException"), ("CuttingRoom", "java/lang/ArithmeticException"), ("CuttingRoom$Cloth", "java/lang/ArithmeticException"), ("CuttingRoom$Marker", "java/lang/ArithmeticException"), ("CuttingRoom$Piece", "java/lang/ArithmeticException"), ("CuttingRoomModel", "java/lang/ArithmeticException"), ("java/lang/IllegalArgumentException", "java/lang/ArithmeticException"), ("java/lang/IllegalStateException", "java/lang/ArithmeticException"), ("java/lang/UnsupportedOperationException", "java/lang/ArithmeticException"), ("CuttingRoom$Shape", "java/lang/ArithmeticException"), ("CuttingRoom$Outline", "java/lang/ArithmeticException"), ("java/lang/ArrayIndexOutOfBoundsException", "java/lang/ArithmeticException"), ("java/lang/IndexOutOfBoundsException", "java/lang/ArithmeticException"), ("java/util/NoSuchElementException", "java/lang/ArithmeticException"), ("CuttingRoom$Style", "java/lang/ArithmeticException")]

abbrev clT : List vw_C := [(RX0, TX0, 7), (RX1, TX1, 8), (RX2, TX2, 6), (RX3, TX3, 7), (RX4, TX4, 11), (RX5, TX5, 2), (RX6, TX6, 11), (RX7, TX7, 49)]
abbrev tysT (cA : Nat → ClassId) : List (ClassId × FieldType) := [(cA 0, .int), (cA 1, .boolean), (cA 2, .char), (cA 3, .long), (cA 4, .double), (cA 5, .object RX4), (cA 6, .object RX5), (cA 7, .object RX3), (cA 8, .object RX2)]
def GW : List Cond := lw_tbl.filter goodWord
theorem mG {i : Nat} {w : Cond} (h : lw_tbl[i]? = some w) (hg : goodWord w = true) : w ∈ GW := List.mem_filter.mpr ⟨List.mem_of_getElem? h, hg⟩
theorem GW_good {w : Cond} (h : w ∈ GW) : goodWord w = true := (List.mem_filter.mp h).2
def cM (cA : Nat → ClassId) (ad : Ads) (M : Mem) (k i : Nat) : va_E := cellG cA ad k i (M.1 k i) (M.2.1 k i) (M.2.2.1 k i) (M.2.2.2 k i)
/-- what the cells refer to is there -/
def FD (cn : Nat → Nat) : Prop := ∀ k i, inD cn k i → ∀ q ∈ fT k i, inD cn q.1 q.2
def ClM (cn : Nat → Nat) (M : Mem) : Prop := ∀ k i s j t, inD cn k i → M.2.1 k i s = some j → tgK k s = some t → inD cn t j
def HW (D : va_G) (cA : Nat → ClassId) (b0 : Nat → Prop) (ad : Ads) (cn : Nat → Nat) (M : Mem) (H : Heap) : Prop :=
  (∀ k i, inD cn k i → va_at D clT (ad k i, cM cA ad M k i) H) ∧ (∀ k i k' i', inD cn k i → inD cn k' i' → ad k i = ad k' i' → k = k' ∧ i = i') ∧ (∀ k i, inD cn k i → b0 (ad k i)) ∧ (∀ k, 100 ≤ k → cn k = 0) ∧ ClM cn M ∧ FD cn
theorem cnt_big (ns nt k : Nat) (h : 100 ≤ k) : cnt ns nt k = 0 := by
  unfold cnt
  split <;> first | rfl | omega
def idl (cn : Nat → Nat) : List (Nat × Nat) := (List.range 100).flatMap fun k => (List.range (cn k)).map fun i => (k, i)
theorem idl_iff {cn : Nat → Nat} {k i : Nat} : (k, i) ∈ idl cn ↔ k < 100 ∧ inD cn k i := by
  unfold idl inD
  rw [List.mem_flatMap]
  constructor
  · rintro ⟨k', h1, h2⟩
    obtain ⟨i', h3, h4⟩ := List.mem_map.mp h2
    cases h4
    exact ⟨List.mem_range.mp h1, List.mem_range.mp h3⟩
  · intro h
    exact ⟨k, List.mem_range.mpr h.1, List.mem_map.mpr ⟨i, List.mem_range.mpr h.2, rfl⟩⟩
theorem lt100 {cn : Nat → Nat} {k i : Nat} (hb : ∀ k, 100 ≤ k → cn k = 0) (h : inD cn k i) : k < 100 := by
  rcases Nat.lt_or_ge k 100 with q | q
  · exact q
  · unfold inD at h
    rw [hb k q] at h
    exact absurd h (Nat.not_lt_zero i)
def wsM (cA : Nat → ClassId) (ad : Ads) (cn : Nat → Nat) (M : Mem) : va_W := (idl cn).map fun q => (ad q.1 q.2, cM cA ad M q.1 q.2)
theorem wsM_get {cA : Nat → ClassId} {ad : Ads} {cn : Nat → Nat} {M : Mem} {k i : Nat} (hb : ∀ k, 100 ≤ k → cn k = 0) (h : inD cn k i) : ∃ q0 : Nat, (wsM cA ad cn M)[q0]? = some (ad k i, cM cA ad M k i) :=
  List.getElem?_of_mem (List.mem_map.mpr ⟨(k, i), idl_iff.mpr ⟨lt100 hb h, h⟩, rfl⟩)
theorem wsM_of {cA : Nat → ClassId} {ad : Ads} {cn : Nat → Nat} {M : Mem} {q0 : Nat} {q : Nat × va_E} (h : (wsM cA ad cn M)[q0]? = some q) : ∃ k i, inD cn k i ∧ (idl cn)[q0]? = some (k, i) ∧ q = (ad k i, cM cA ad M k i) := by
  unfold wsM at h
  rw [List.getElem?_map] at h
  obtain ⟨q1, h1, h2⟩ := Option.map_eq_some_iff.mp h
  exact ⟨q1.1, q1.2, (idl_iff.mp (List.mem_of_getElem? h1)).2, h1, h2.symm⟩
theorem HW_P {D : va_G} {cA : Nat → ClassId} {b0 : Nat → Prop} {ad : Ads} {cn : Nat → Nat} {M : Mem} {H : Heap} (hw : HW D cA b0 ad cn M H) : va_P D clT (wsM cA ad cn M) H := fun q0 q hq => by
  obtain ⟨k, i, h, -, rfl⟩ := wsM_of hq
  exact hw.1 k i h
theorem idl_nd (cn : Nat → Nat) : (idl cn).Nodup := by
  unfold idl List.Nodup
  rw [List.pairwise_flatMap]
  refine ⟨fun k _ => ?_, ?_⟩
  · rw [List.pairwise_map]
    exact List.Pairwise.imp (fun {a b} h e => h (Prod.mk.inj e).2) (List.nodup_range (n := cn k))
  · refine List.Pairwise.imp (fun {a b} hab q1 h1 q2 h2 e => ?_) (List.nodup_range (n := 100))
    obtain ⟨i, -, rfl⟩ := List.mem_map.mp h1
    obtain ⟨i', -, rfl⟩ := List.mem_map.mp h2
    exact hab (Prod.mk.inj e).1
theorem HW_D {D : va_G} {cA : Nat → ClassId} {b0 : Nat → Prop} {ad : Ads} {cn : Nat → Nat} {M : Mem} {H : Heap} (hw : HW D cA b0 ad cn M H) : va_D b0 (wsM cA ad cn M) := by
  refine ⟨fun a b p q hp hq e => ?_, fun q0 q hq => ?_⟩
  · obtain ⟨k, i, h, h1, rfl⟩ := wsM_of hp
    obtain ⟨k', i', h', h1', rfl⟩ := wsM_of hq
    obtain ⟨rfl, rfl⟩ := hw.2.1 _ _ _ _ h h' e
    exact (List.getElem?_inj (List.getElem?_eq_some_iff.mp h1).1 (idl_nd cn)).mp (h1.trans h1'.symm)
  · obtain ⟨k, i, h, -, rfl⟩ := wsM_of hq
    exact hw.2.2.1 k i h
theorem HW_put {D : va_G} {cA : Nat → ClassId} {b0 : Nat → Prop} {ad : Ads} {cn : Nat → Nat} {M M' : Mem} {H H1 : Heap} {k i q0 : Nat} {e0 : va_E} (hw : HW D cA b0 ad cn M H) (hin : inD cn k i) (hq : (wsM cA ad cn M)[q0]? = some (ad k i, e0))
    (h1 : va_P D clT ((wsM cA ad cn M).set q0 (ad k i, cM cA ad M' k i)) H1) (hM : ∀ k' i', ¬ (k' = k ∧ i' = i) → cM cA ad M' k' i' = cM cA ad M k' i') (hcl : ClM cn M') : HW D cA b0 ad cn M' H1 := by
  refine ⟨fun k' i' h' => ?_, hw.2.1, hw.2.2.1, hw.2.2.2.1, hcl, hw.2.2.2.2.2⟩
  have hlt : q0 < (wsM cA ad cn M).length := (List.getElem?_eq_some_iff.mp hq).1
  by_cases hk : k' = k ∧ i' = i
  · obtain ⟨rfl, rfl⟩ := hk
    exact h1 q0 _ (by rw [List.getElem?_set_self hlt])
  · obtain ⟨q1, hq1⟩ := wsM_get (hb := hw.2.2.2.1) (cA := cA) (ad := ad) (M := M) h'
    have hne : q0 ≠ q1 := fun e => by
      subst e
      have h2 := congrArg Prod.fst (Option.some.inj (hq.symm.trans hq1))
      have h3 := hw.2.1 k i k' i' hin h' h2
      exact hk ⟨h3.1.symm, h3.2.symm⟩
    rw [hM k' i' hk]
    exact h1 q1 _ (by rw [List.getElem?_set_ne hne]; exact hq1)
def up1 {α : Type} (f : Nat → α) (s : Nat) (v : α) : Nat → α := fun j => if j = s then v else f j
def up3 {α : Type} (f : Nat → Nat → Nat → α) (k i s : Nat) (v : α) : Nat → Nat → Nat → α := fun k' i' s' => if k' = k ∧ i' = i ∧ s' = s then v else f k' i' s'
theorem up3_on {α : Type} (f : Nat → Nat → Nat → α) (k i s : Nat) (v : α) : up3 f k i s v k i = up1 (f k i) s v := by
  funext j
  simp [up3, up1]
theorem up3_off {α : Type} (f : Nat → Nat → Nat → α) {k i k' i' : Nat} (s : Nat) (v : α) (h : ¬ (k' = k ∧ i' = i)) : up3 f k i s v k' i' = f k' i' := by
  funext j
  exact if_neg (fun e => h ⟨e.1, e.2.1⟩)
def uI (M : Mem) (k i s : Nat) (v : Int) : Mem := (up3 M.1 k i s v, M.2)
def uR (M : Mem) (k i s : Nat) (v : Option Nat) : Mem := (M.1, up3 M.2.1 k i s v, M.2.2)
theorem ClM.uR {cn : Nat → Nat} {M : Mem} {k i s v : Nat} (h : ClM cn M) (hv : ∀ t, tgK k s = some t → inD cn t v) : ClM cn (uR M k i s (some v)) := by
  intro k' i' s' j t h1 h2 h3
  have h2' : (if k' = k ∧ i' = i ∧ s' = s then some v else M.2.1 k' i' s') = some j := h2
  split at h2'
  · rename_i h9
    obtain ⟨rfl, rfl, rfl⟩ := h9
    rw [← Option.some.inj h2']
    exact hv t h3
  · exact h k' i' s' j t h1 h2' h3
def uL (M : Mem) (k i s : Nat) (v : Int) : Mem := (M.1, M.2.1, up3 M.2.2.1 k i s v, M.2.2.2)
def uD (M : Mem) (k i s : Nat) (v : UInt64) : Mem := (M.1, M.2.1, M.2.2.1, up3 M.2.2.2 k i s v)
theorem uI_on (cA : Nat → ClassId) (ad : Ads) (M : Mem) (k i s : Nat) (v : Int) : cM cA ad (uI M k i s v) k i = cellG cA ad k i (up1 (M.1 k i) s v) (M.2.1 k i) (M.2.2.1 k i) (M.2.2.2 k i) := by
  show cellG cA ad k i (up3 M.1 k i s v k i) _ _ _ = _
  rw [up3_on]
  rfl
theorem uI_off (cA : Nat → ClassId) (ad : Ads) (M : Mem) {k i : Nat} (s : Nat) (v : Int) : ∀ k' i', ¬ (k' = k ∧ i' = i) → cM cA ad (uI M k i s v) k' i' = cM cA ad M k' i' := fun k' i' h => by
  show cellG cA ad k' i' (up3 M.1 k i s v k' i') _ _ _ = _
  rw [up3_off _ s v h]
  rfl
theorem uR_on (cA : Nat → ClassId) (ad : Ads) (M : Mem) (k i s : Nat) (v : Option Nat) : cM cA ad (uR M k i s v) k i = cellG cA ad k i (M.1 k i) (up1 (M.2.1 k i) s v) (M.2.2.1 k i) (M.2.2.2 k i) := by
  show cellG cA ad k i _ (up3 M.2.1 k i s v k i) _ _ = _
  rw [up3_on]
  rfl
theorem uR_off (cA : Nat → ClassId) (ad : Ads) (M : Mem) {k i : Nat} (s : Nat) (v : Option Nat) : ∀ k' i', ¬ (k' = k ∧ i' = i) → cM cA ad (uR M k i s v) k' i' = cM cA ad M k' i' := fun k' i' h => by
  show cellG cA ad k' i' _ (up3 M.2.1 k i s v k' i') _ _ = _
  rw [up3_off _ s v h]
  rfl
theorem uL_on (cA : Nat → ClassId) (ad : Ads) (M : Mem) (k i s : Nat) (v : Int) : cM cA ad (uL M k i s v) k i = cellG cA ad k i (M.1 k i) (M.2.1 k i) (up1 (M.2.2.1 k i) s v) (M.2.2.2 k i) := by
  show cellG cA ad k i _ _ (up3 M.2.2.1 k i s v k i) _ = _
  rw [up3_on]
  rfl
theorem uL_off (cA : Nat → ClassId) (ad : Ads) (M : Mem) {k i : Nat} (s : Nat) (v : Int) : ∀ k' i', ¬ (k' = k ∧ i' = i) → cM cA ad (uL M k i s v) k' i' = cM cA ad M k' i' := fun k' i' h => by
  show cellG cA ad k' i' _ _ (up3 M.2.2.1 k i s v k' i') _ = _
  rw [up3_off _ s v h]
  rfl
theorem uD_on (cA : Nat → ClassId) (ad : Ads) (M : Mem) (k i s : Nat) (v : UInt64) : cM cA ad (uD M k i s v) k i = cellG cA ad k i (M.1 k i) (M.2.1 k i) (M.2.2.1 k i) (up1 (M.2.2.2 k i) s v) := by
  show cellG cA ad k i _ _ _ (up3 M.2.2.2 k i s v k i) = _
  rw [up3_on]
  rfl
theorem uD_off (cA : Nat → ClassId) (ad : Ads) (M : Mem) {k i : Nat} (s : Nat) (v : UInt64) : ∀ k' i', ¬ (k' = k ∧ i' = i) → cM cA ad (uD M k i s v) k' i' = cM cA ad M k' i' := fun k' i' h => by
  show cellG cA ad k' i' _ _ _ (up3 M.2.2.2 k i s v k' i') = _
  rw [up3_off _ s v h]
  rfl
/-! what a start gives beside the memory -/
def CaP (C T : String) (U : State) : Prop := ∃ c t : ClassId, U.vm.findClass C = some c ∧ U.vm.findClass T = some t ∧ U.vm.assignable c t = true
theorem CaP.moved {C T : String} {u U : State} (hvm : u.vm.Alike U.vm) (h : CaP C T u) : CaP C T U := by
  obtain ⟨c, t, h1, h2, h3⟩ := h
  exact ⟨c, t, by rw [hvm.findClass]; exact h1, by rw [hvm.findClass]; exact h2, by rw [hvm.assignable]; exact h3⟩
theorem CaP.use {C T : String} {args : Array Value} {U : State} (h : CaP C T U) : (Cond.castable C T).before args U = true := by
  obtain ⟨c, t, h1, h2, h3⟩ := h
  simp [Cond.before, Cond.holds, Cond.value, h1, h2, h3]
def aoL : List String := [RX4, RX5, RX3, RX2]
def EV (D : va_G) (cA : Nat → ClassId) (b0 : Nat → Prop) (U : State) : Prop :=
  va_K D clT (tysT cA) U ∧ vx_Zq Bundle.tN "UNASSIGNED_STACK" Bundle.steD b0 U U.heap ∧ vx_Zq Bundle.tN "SUPPRESSED_SENTINEL" Bundle.listD b0 U U.heap ∧ (∀ q, U.heap.size ≤ q → b0 q) ∧
  (∀ q ∈ strL, ∃ a, vk_R q.1 q.2.1 q.2.2 a U) ∧ (∀ q ∈ nestL, va_Nw (.methodLinkNest q.1 q.2.1 q.2.2.1 q.2.2.2) U) ∧ (∀ q ∈ castL, CaP q.1 q.2 U) ∧ ((∀ q ∈ ncL, va_Nc q.1 q.2 U) ∧ ∀ C ∈ aoL, va_AO C U) ∧ ∀ x ∈ declL, va_Nw (.declares x) U
theorem EV.same {D : va_G} {cA : Nat → ClassId} {b0 : Nat → Prop} {u U : State} (hv : U.vm = u.vm) (hh : U.heap = u.heap) (h : EV D cA b0 u) : EV D cA b0 U := by
  obtain ⟨h1, h2, h3, h4, h5, h6, h7, h8, h9⟩ := h
  have ha : u.vm.Alike U.vm := by rw [hv]; exact Vm.Alike.refl u.vm
  refine ⟨va_K.moved ha h1, ?_, ?_, by rw [hh]; exact h4, fun q hq => ?_, fun q hq => va_Nw.same rfl hv.symm (h6 q hq), fun q hq => CaP.moved ha (h7 q hq), ⟨fun q hq => va_Nc.moved ha (h8.1 q hq), fun C hC => va_AO.moved ha (h8.2 C hC)⟩, fun x hx => va_Nw.same rfl hv.symm (h9 x hx)⟩
  · rw [hh]; exact vx_Zq.moved ha h2
  · rw [hh]; exact vx_Zq.moved ha h3
  · obtain ⟨a, k⟩ := h5 q hq
    exact ⟨a, vk_R.same hv k⟩
theorem EV.warm {D : va_G} {cA : Nat → ClassId} {b0 : Nat → Prop} {s U : State} {locs : List Loc} (hW : s.WarmedH U.vm) (hS : va_S b0 s.heap U.heap locs) (h : EV D cA b0 s) : EV D cA b0 U := by
  obtain ⟨h1, h2, h3, h4, h5, h6, h7, h8, h9⟩ := h
  refine ⟨va_K.moved hW.alike h1, vx_Zq.moved hW.alike (h2.kept hS.2.1), vx_Zq.moved hW.alike (h3.kept hS.2.1), (fun q hq => h4 q (Nat.le_trans hS.1 hq)), fun q hq => ?_, fun q hq => va_Nw.warmM hW (h6 q hq), fun q hq => CaP.moved hW.alike (h7 q hq), ⟨fun q hq => va_Nc.moved hW.alike (h8.1 q hq), fun C hC => va_AO.moved hW.alike (h8.2 C hC)⟩, fun x hx => va_Nw.warmD hW (h9 x hx)⟩
  obtain ⟨a, k⟩ := h5 q hq
  exact ⟨a, vk_R.warm hW k⟩
def Cx (l : Launch) (p : Program) (s : State) (m : MethodId) (args : Array Value) (meth : Method) (c : Code) (cc : ByteArray) (own : String) (nL : Nat) (D : va_G) (cA : Nat → ClassId) (b0 : Nat → Prop) (tab : List ExceptionTableEntry) : Prop :=
  p.tables.exec = Jvm.exec ∧ c.code = cc ∧ c.maxLocals = nL ∧ s.vm.findClass own = some m.cls ∧ (∀ w ∈ GW, w.before args s = true) ∧ meth.locks = false ∧ l.stackTraces = false ∧ EV D cA b0 s ∧ c.exceptionTable.toList = tab
abbrev PT : Type := Option AV → Mem → Prop
abbrev PX : Type := String → Mem → Prop
def mQ (D : va_G) (cA : Nat → ClassId) (b0 : Nat → Prop) (ad : Ads) (cn : Nat → Nat) (P : PT) : Array Value → State → Outcome → State → Prop := fun _ st oc t => ∃ (r : Option AV) (M : Mem), oc = .returned (r.map (tv ad)) ∧ P r M ∧ HW D cA b0 ad cn M t.heap ∧ va_F b0 st t
def mX (D : va_G) (cA : Nat → ClassId) (b0 : Nat → Prop) (ad : Ads) (cn : Nat → Nat) (X : PX) : String → State → State → Prop := fun E st t => ∃ M : Mem, X E M ∧ HW D cA b0 ad cn M t.heap ∧ va_F b0 st t
def rmd (d mc ms : Nat) : Room := { frames := d, cells := mc, slots := ms, locals := 40 * d }
def Con (l : Launch) (b0 : Nat → Prop) (y : MethodName) (cc : ByteArray) (nL : Nat) (ret : Option FieldType) (d mc ms : Nat) (as : List AV) (ad : Ads) (cn : Nat → Nat) (M : Mem) (P : PT) (X : PX) : Prop :=
  ∀ (D : va_G) (cA : Nat → ClassId), vx_Met l y (.code y cc nL ret :: GW) (rmd d mc ms) (va_Pc (as.map (tv ad)) (fun U => HW D cA b0 ad cn M U.heap ∧ EV D cA b0 U)) (mQ D cA b0 ad cn P) (mX D cA b0 ad cn X) mc ms b0
def Wm (p : Program) (l : Launch) (e : Env) (R : Room) (s : State) (m : MethodId) (args : Array Value) (below : List Frame) (meth : Method) (c : Code) (nL : Nat) (D : va_G) (cA : Nat → ClassId) (b0 : Nat → Prop) (cells slots : Nat) (Q : State → Prop) (pc : Nat) (lv : Lv) (st : List AV) (ad : Ads) (cn : Nat → Nat) (M : Mem) : Prop :=
  ∀ (H : Heap) (locs : List Loc) (ls : Array Slot), HW D cA b0 ad cn M H → va_S b0 s.heap H locs → lv_has ls nL (lvm ad lv) → W p l e R s m args below meth c H locs cells slots Q (F0 m pc ls (st.map (tv ad)))
/-! numbers -/
theorem e32 {x : Int} (h : -2147483648 ≤ x ∧ x ≤ 2147483647) : (Int32.ofInt x).toInt = x := Int32.toInt_ofInt_of_le (by omega) (by omega)
theorem e64 {x : Int} (h : -9223372036854775808 ≤ x ∧ x ≤ 9223372036854775807) : (Int64.ofInt x).toInt = x := Int64.toInt_ofInt_of_le (by omega) (by omega)
theorem e32_eq {x y : Int} (hx : -2147483648 ≤ x ∧ x ≤ 2147483647) (hy : -2147483648 ≤ y ∧ y ≤ 2147483647) : Int32.ofInt x = Int32.ofInt y ↔ x = y := by
  rw [← Int32.toInt_inj, e32 hx, e32 hy]
theorem e32_lt {x y : Int} (hx : -2147483648 ≤ x ∧ x ≤ 2147483647) (hy : -2147483648 ≤ y ∧ y ≤ 2147483647) : Int32.ofInt x < Int32.ofInt y ↔ x < y := by
  rw [Int32.lt_iff_toInt_lt, e32 hx, e32 hy]
theorem e32_le {x y : Int} (hx : -2147483648 ≤ x ∧ x ≤ 2147483647) (hy : -2147483648 ≤ y ∧ y ≤ 2147483647) : Int32.ofInt x ≤ Int32.ofInt y ↔ x ≤ y := by
  rw [Int32.le_iff_toInt_le, e32 hx, e32 hy]
theorem z32 : (0 : Int32) = Int32.ofInt 0 := rfl
theorem ix_in {z : Int} {n : Nat} (h : 0 ≤ z ∧ z < n) (hn : n ≤ 2147483647) : vp_in (Int32.ofInt z) n ∧ (Int32.ofInt z).toNatClampNeg = z.toNat := by
  have e : (Int32.ofInt z).toInt = z := e32 (by omega)
  have e2 : (Int32.ofInt z).toNatClampNeg = z.toNat := by
    show (Int32.ofInt z).toInt.toNat = _
    rw [e]
  refine ⟨?_, e2⟩
  rw [vp_in_iff, e]
  exact h
