/-! making cells: the world grows -/
def zM (M : Mem) (k i : Nat) : Mem := (fun k' i' s => if k' = k ∧ i' = i then 0 else M.1 k' i' s, fun k' i' s => if k' = k ∧ i' = i then none else M.2.1 k' i' s, fun k' i' s => if k' = k ∧ i' = i then 0 else M.2.2.1 k' i' s, fun k' i' s => if k' = k ∧ i' = i then 0 else M.2.2.2 k' i' s)
theorem inD_up {cn : Nat → Nat} {k k' i' : Nat} : inD (up1 cn k (cn k + 1)) k' i' ↔ inD cn k' i' ∨ (k' = k ∧ i' = cn k) := by
  unfold inD up1
  split
  · rename_i h
    subst h
    omega
  · rename_i h
    omega
theorem zM_on (M : Mem) (k i : Nat) : (zM M k i).1 k i = (fun _ => 0) ∧ (zM M k i).2.1 k i = (fun _ => none) ∧ (zM M k i).2.2.1 k i = (fun _ => 0) ∧ (zM M k i).2.2.2 k i = (fun _ => 0) := by
  refine ⟨?_, ?_, ?_, ?_⟩ <;> (funext s; exact if_pos ⟨rfl, rfl⟩)
theorem zM_off (M : Mem) {k i k' i' : Nat} (h : ¬ (k' = k ∧ i' = i)) : (zM M k i).1 k' i' = M.1 k' i' ∧ (zM M k i).2.1 k' i' = M.2.1 k' i' ∧ (zM M k i).2.2.1 k' i' = M.2.2.1 k' i' ∧ (zM M k i).2.2.2 k' i' = M.2.2.2 k' i' := by
  refine ⟨?_, ?_, ?_, ?_⟩ <;> (funext s; exact if_neg h)
def adN (ad : Ads) (k i q : Nat) : Ads := fun k' i' => if k' = k ∧ i' = i then q else ad k' i'
theorem adN_on (ad : Ads) (k i q : Nat) : adN ad k i q k i = q := if_pos ⟨rfl, rfl⟩
theorem adN_off (ad : Ads) {k i k' i' : Nat} (q : Nat) (h : ¬ (k' = k ∧ i' = i)) : adN ad k i q k' i' = ad k' i' := if_neg h
/-- the address agrees on what a cell of the old world refers to -/
theorem cM_ag {cA : Nat → ClassId} {ad ad' : Ads} {cn : Nat → Nat} {M : Mem} {k i : Nat} (hcl : ClM cn M) (hfd : FD cn) (hin : inD cn k i) (hag : ∀ k' i', inD cn k' i' → ad' k' i' = ad k' i') : cM cA ad' M k i = cM cA ad M k i :=
  cG_ag (fun q hq => hag q.1 q.2 (hfd k i hin q hq)) (fun s t ht j hj => hag t j (hcl k i s j t hin hj ht))
theorem HW.grow {D : va_G} {cA : Nat → ClassId} {b0 : Nat → Prop} {ad : Ads} {cn : Nat → Nat} {M : Mem} {H H1 : Heap} (k : Nat) {q : Nat} {e : va_E} (hw : HW D cA b0 ad cn M H) (hk : k < 100) (hF : fT k (cn k) = [])
    (hP : va_P D clT (wsM cA ad cn M ++ [(q, e)]) H1) (hD : va_D b0 (wsM cA ad cn M ++ [(q, e)])) (he : ∀ ad' : Ads, cellG cA ad' k (cn k) (fun _ => 0) (fun _ => none) (fun _ => 0) (fun _ => 0) = e) :
    HW D cA b0 (adN ad k (cn k) q) (up1 cn k (cn k + 1)) (zM M k (cn k)) H1 := by
  obtain ⟨h1, h2, h3, h4, h5, h6⟩ := hw
  have hnew : (wsM cA ad cn M ++ [(q, e)])[(wsM cA ad cn M).length]? = some (q, e) := by rw [List.getElem?_append_right (Nat.le_refl _), Nat.sub_self]; rfl
  have hold : ∀ k' i', inD cn k' i' → ∃ q0, q0 < (wsM cA ad cn M).length ∧ (wsM cA ad cn M ++ [(q, e)])[q0]? = some (ad k' i', cM cA ad M k' i') := by
    intro k' i' h
    obtain ⟨q0, hq⟩ := wsM_get (hb := h4) (cA := cA) (ad := ad) (M := M) h
    have hl := (List.getElem?_eq_some_iff.mp hq).1
    exact ⟨q0, hl, by rw [List.getElem?_append_left hl]; exact hq⟩
  have hne : ∀ k' i', inD cn k' i' → ¬ (k' = k ∧ i' = cn k) := fun k' i' h g => by
    obtain ⟨rfl, rfl⟩ := g
    exact Nat.lt_irrefl _ h
  have hag : ∀ k' i', inD cn k' i' → adN ad k (cn k) q k' i' = ad k' i' := fun k' i' h => adN_off ad q (hne k' i' h)
  have hap : ∀ k' i', inD cn k' i' → ad k' i' ≠ q := fun k' i' h g => by
    obtain ⟨q0, hl, hq⟩ := hold k' i' h
    have := hD.1 _ _ _ _ hq hnew g
    omega
  refine ⟨fun k' i' h => ?_, fun k' i' k2 i2 h g e9 => ?_, fun k' i' h => ?_, fun k' hk' => ?_, fun k' i' s j t h hj ht => ?_, fun k' i' h q9 hq9 => ?_⟩
  · rcases inD_up.mp h with h | ⟨rfl, rfl⟩
    · obtain ⟨q0, hl, hq⟩ := hold k' i' h
      obtain ⟨z1, z2, z3, z4⟩ := zM_off M (hne k' i' h)
      rw [hag k' i' h]
      have e1 : cM cA (adN ad k (cn k) q) (zM M k (cn k)) k' i' = cM cA ad M k' i' := by
        rw [← cM_ag h5 h6 h hag]
        unfold cM
        rw [z1, z2, z3, z4]
      rw [e1]
      exact hP q0 _ hq
    · obtain ⟨z1, z2, z3, z4⟩ := zM_on M k' (cn k')
      rw [adN_on]
      have e1 : cM cA (adN ad k' (cn k') q) (zM M k' (cn k')) k' (cn k') = e := by
        unfold cM
        rw [z1, z2, z3, z4]
        exact he _
      rw [e1]
      exact hP _ _ hnew
  · rcases inD_up.mp h with u | ⟨rfl, rfl⟩ <;> rcases inD_up.mp g with v | ⟨rfl, rfl⟩
    · rw [hag _ _ u, hag _ _ v] at e9
      exact h2 _ _ _ _ u v e9
    · rw [hag _ _ u, adN_on] at e9
      exact absurd e9 (hap _ _ u)
    · rw [hag _ _ v, adN_on] at e9
      exact absurd e9.symm (hap _ _ v)
    · exact ⟨rfl, rfl⟩
  · rcases inD_up.mp h with h | ⟨rfl, rfl⟩
    · rw [hag _ _ h]; exact h3 _ _ h
    · rw [adN_on]; exact hD.2 _ _ hnew
  · unfold up1
    rw [if_neg (by omega)]
    exact h4 k' hk'
  · rcases inD_up.mp h with h | ⟨rfl, rfl⟩
    · rw [(zM_off M (hne k' i' h)).2.1] at hj
      exact inD_up.mpr (Or.inl (h5 k' i' s j t h hj ht))
    · rw [(zM_on M _ _).2.1] at hj
      cases hj
  · rcases inD_up.mp h with h | ⟨rfl, rfl⟩
    · exact inD_up.mpr (Or.inl (h6 k' i' h q9 hq9))
    · rw [hF] at hq9
      cases hq9
/-- what is on the stack and in the variables doesn't speak of a kind -/
def nkv (k : Nat) (v : AV) : Bool := match v with
  | .inr (.inl (some p)) => p.1 != k
  | _ => true
def nkl (ks : List Nat) (lv : Lv) (st : List AV) : Bool := ks.all fun k => lv.all (fun q => nkv k q.2) && st.all (nkv k)
theorem tv_nk {ks : List Nat} {ad ad' : Ads} (hag : ∀ k' i', k' ∉ ks → ad' k' i' = ad k' i') {v : AV} (h : ∀ k ∈ ks, nkv k v = true) : tv ad' v = tv ad v := by
  rcases v with x | (_ | q) | x | x | x
  · rfl
  · rfl
  · have : q.1 ∉ ks := fun hm => by
      have := h q.1 hm
      simp [nkv] at this
    show Value.ref _ = Value.ref _
    rw [hag q.1 q.2 this]
  · rfl
  · rfl
  · rfl
theorem nkl_ag {ks : List Nat} {ad ad' : Ads} {lv : Lv} {st : List AV} (h : nkl ks lv st = true) (hag : ∀ k' i', k' ∉ ks → ad' k' i' = ad k' i') : lvm ad' lv = lvm ad lv ∧ st.map (tv ad') = st.map (tv ad) := by
  have h0 := List.all_eq_true.mp h
  refine ⟨List.map_congr_left fun q hq => ?_, List.map_congr_left fun v hv => tv_nk hag fun k hk => ?_⟩
  · rw [tv_nk hag fun k hk => ?_]
    have := h0 k hk
    rw [Bool.and_eq_true] at this
    exact List.all_eq_true.mp this.1 q hq
  · have := h0 k hk
    rw [Bool.and_eq_true] at this
    exact List.all_eq_true.mp this.2 v hv
theorem va_RA_inj {U : State} {c c' : ClassId} {t : FieldType} (ht : ∀ C, t ≠ .object C) (h : va_RA U c t) (h' : va_RA U c' t) : c = c' := by
  cases t with
  | object C => exact absurd rfl (ht C)
  | _ => exact Option.some.inj (h.symm.trans h')
theorem va_RA_injO {U : State} {c c' : ClassId} {C : String} (h : va_RA U c (.object C)) (h' : va_RA U c' (.object C)) : c = c' := by
  obtain ⟨_, _, _, _, _, h⟩ := h
  obtain ⟨_, _, _, _, _, h'⟩ := h'
  exact Option.some.inj (h.symm.trans h')
section Rows
variable {p : Program} {l : Launch} {e : Env} {R : Room} {s : State} {m : MethodId} {args : Array Value} {below : List Frame} {meth : Method} {c : Code} {nL : Nat} {D : va_G} {cA : Nat → ClassId} {b0 : Nat → Prop} {cells slots : Nat} {Q : State → Prop} {lv : Lv} {st : List AV} {ad : Ads} {cn : Nat → Nat} {M : Mem} {cc : ByteArray} {own : String} {tab : List ExceptionTableEntry} {pc pc' : Nat}
/-- what a row that makes a cell of kind k at its next number goes on with -/
def GR (p : Program) (l : Launch) (e : Env) (R : Room) (s : State) (m : MethodId) (args : Array Value) (below : List Frame) (meth : Method) (c : Code) (nL : Nat) (D : va_G) (cA : Nat → ClassId) (b0 : Nat → Prop) (cells slots : Nat) (Q : State → Prop) (pc : Nat) (lv : Lv) (st : List AV) (ad : Ads) (cn : Nat → Nat) (M : Mem) (k i : Nat) : Prop :=
  ∀ ad' : Ads, (∀ k' i', ¬ (k' = k ∧ i' = i) → ad' k' i' = ad k' i') → Wm p l e R s m args below meth c nL D cA b0 cells slots Q pc lv (aO k i :: st) ad' (up1 cn k (i + 1)) (zM M k i)
theorem GR.go {k q i : Nat} (hi : cn k = i) {e9 : va_E} {H H1 : Heap} {locs : List Loc} {ls : Array Slot} (kk : GR p l e R s m args below meth c nL D cA b0 cells slots Q pc lv st ad cn M k i) (hw : HW D cA b0 ad cn M H) (hk : k < 100) (hF : fT k (cn k) = []) (hnk : nkl [k] lv st = true)
    (hP : va_P D clT (wsM cA ad cn M ++ [(q, e9)]) H1) (hD : va_D b0 (wsM cA ad cn M ++ [(q, e9)])) (hS : va_S b0 s.heap H1 locs) (hl : lv_has ls nL (lvm ad lv)) (he : ∀ ad' : Ads, cellG cA ad' k (cn k) (fun _ => 0) (fun _ => none) (fun _ => 0) (fun _ => 0) = e9) :
    W p l e R s m args below meth c H1 locs cells slots Q (F0 m pc ls (.ref q :: st.map (tv ad))) := by
  subst hi
  have hag : ∀ k' i', k' ∉ [k] → adN ad k (cn k) q k' i' = ad k' i' := fun k' i' h => adN_off ad q (fun g => h (by simp [g.1]))
  obtain ⟨a1, a2⟩ := nkl_ag hnk hag
  have k9 := kk (adN ad k (cn k) q) (fun k' i' h => adN_off ad q h) H1 locs ls (HW.grow k hw hk hF hP hD he) hS (by rw [a1]; exact hl)
  rw [List.map_cons, a2] at k9
  have e1 : tv (adN ad k (cn k) q) (aO k (cn k)) = .ref q := by
    show Value.ref (adN ad k (cn k) q k (cn k)) = _
    rw [adN_on]
  rw [e1] at k9
  exact k9
theorem w_newI (C : Cx l p s m args meth c cc own nL D cA b0 tab) {k N i : Nat} (hi : cn k = i) (hd : DI cc pc (.newarray .int) 2 pc') (hw9 : Cond.arrayClass (newarray.typeOf .int) ∈ GW) (hA : IA k N) (hk : k < 100) (hF : fT k (cn k) = []) (hnk : nkl [k] lv st = true) (hb : N ≤ 1000) (hroom : cells + 1 ≤ R.cells ∧ slots + N ≤ R.slots)
    (kk : GR p l e R s m args below meth c nL D cA b0 (cells + 1) (slots + N) Q pc' lv st ad cn M k i) : Wm p l e R s m args below meth c nL D cA b0 cells slots Q pc lv (aI (N : Int) :: st) ad cn M := by
  intro H locs ls hw hS hl
  have EVv := C.2.2.2.2.2.2.2.1
  have ix : ¬ Int32.ofInt (N : Int) < 0 := by rw [z32, e32_lt (by omega) (by omega)]; omega
  have ix2 : (Int32.ofInt (N : Int)).toNatClampNeg = N := by
    show (Int32.ofInt (N : Int)).toInt.toNat = _
    rw [e32 (by omega)]
    exact Int.toNat_natCast N
  refine va_newa (a0 := (N, .inl (fun _ => Int32.ofInt 0))) C.1 C.2.1 (C.2.2.2.2.1 _ hw9) rfl EVv.1 (HW_P hw) (HW_D hw) hS EVv.2.2.2.1 (fun _ => rfl) ix ix2 (Nat.le_trans (Nat.mul_le_mul hb (show componentBytes .int ≤ 8 by decide)) (by decide)) hroom.1 hroom.2 hd.1 (fun q cA' H1 hK1 hP1 hD1 hS1 => ?_)
  have e1 : cA' = cA 0 := va_RA_inj (t := .int) (fun _ h => by cases h) ((hK1.2 (tysT cA).length _ (by rw [List.getElem?_append_right (Nat.le_refl _), Nat.sub_self]; rfl)).2) ((EVv.1.2 0 _ rfl).2)
  subst e1
  rw [hd.2]
  exact GR.go hi kk hw hk hF hnk hP1 hD1 hS1 hl (fun ad' => by rw [hA.2])
theorem w_newZ (C : Cx l p s m args meth c cc own nL D cA b0 tab) {k N i : Nat} (hi : cn k = i) (hd : DI cc pc (.newarray .boolean) 2 pc') (hw9 : Cond.arrayClass (newarray.typeOf .boolean) ∈ GW) (hA : ZA k N) (hk : k < 100) (hF : fT k (cn k) = []) (hnk : nkl [k] lv st = true) (hb : N ≤ 1000) (hroom : cells + 1 ≤ R.cells ∧ slots + N ≤ R.slots)
    (kk : GR p l e R s m args below meth c nL D cA b0 (cells + 1) (slots + N) Q pc' lv st ad cn M k i) : Wm p l e R s m args below meth c nL D cA b0 cells slots Q pc lv (aI (N : Int) :: st) ad cn M := by
  intro H locs ls hw hS hl
  have EVv := C.2.2.2.2.2.2.2.1
  have ix : ¬ Int32.ofInt (N : Int) < 0 := by rw [z32, e32_lt (by omega) (by omega)]; omega
  have ix2 : (Int32.ofInt (N : Int)).toNatClampNeg = N := by
    show (Int32.ofInt (N : Int)).toInt.toNat = _
    rw [e32 (by omega)]
    exact Int.toNat_natCast N
  refine va_newa (a0 := (N, .inl (fun _ => Int32.ofInt 0))) C.1 C.2.1 (C.2.2.2.2.1 _ hw9) rfl EVv.1 (HW_P hw) (HW_D hw) hS EVv.2.2.2.1 (fun _ => rfl) ix ix2 (Nat.le_trans (Nat.mul_le_mul hb (show componentBytes .boolean ≤ 8 by decide)) (by decide)) hroom.1 hroom.2 hd.1 (fun q cA' H1 hK1 hP1 hD1 hS1 => ?_)
  have e1 : cA' = cA 1 := va_RA_inj (t := .boolean) (fun _ h => by cases h) ((hK1.2 (tysT cA).length _ (by rw [List.getElem?_append_right (Nat.le_refl _), Nat.sub_self]; rfl)).2) ((EVv.1.2 1 _ rfl).2)
  subst e1
  rw [hd.2]
  exact GR.go hi kk hw hk hF hnk hP1 hD1 hS1 hl (fun ad' => by rw [hA.2])
theorem w_newC (C : Cx l p s m args meth c cc own nL D cA b0 tab) {k N i : Nat} (hi : cn k = i) (hd : DI cc pc (.newarray .char) 2 pc') (hw9 : Cond.arrayClass (newarray.typeOf .char) ∈ GW) (hA : CA k N) (hk : k < 100) (hF : fT k (cn k) = []) (hnk : nkl [k] lv st = true) (hb : N ≤ 1000) (hroom : cells + 1 ≤ R.cells ∧ slots + N ≤ R.slots)
    (kk : GR p l e R s m args below meth c nL D cA b0 (cells + 1) (slots + N) Q pc' lv st ad cn M k i) : Wm p l e R s m args below meth c nL D cA b0 cells slots Q pc lv (aI (N : Int) :: st) ad cn M := by
  intro H locs ls hw hS hl
  have EVv := C.2.2.2.2.2.2.2.1
  have ix : ¬ Int32.ofInt (N : Int) < 0 := by rw [z32, e32_lt (by omega) (by omega)]; omega
  have ix2 : (Int32.ofInt (N : Int)).toNatClampNeg = N := by
    show (Int32.ofInt (N : Int)).toInt.toNat = _
    rw [e32 (by omega)]
    exact Int.toNat_natCast N
  refine va_newa (a0 := (N, .inl (fun _ => Int32.ofInt 0))) C.1 C.2.1 (C.2.2.2.2.1 _ hw9) rfl EVv.1 (HW_P hw) (HW_D hw) hS EVv.2.2.2.1 (fun _ => rfl) ix ix2 (Nat.le_trans (Nat.mul_le_mul hb (show componentBytes .char ≤ 8 by decide)) (by decide)) hroom.1 hroom.2 hd.1 (fun q cA' H1 hK1 hP1 hD1 hS1 => ?_)
  have e1 : cA' = cA 2 := va_RA_inj (t := .char) (fun _ h => by cases h) ((hK1.2 (tysT cA).length _ (by rw [List.getElem?_append_right (Nat.le_refl _), Nat.sub_self]; rfl)).2) ((EVv.1.2 2 _ rfl).2)
  subst e1
  rw [hd.2]
  exact GR.go hi kk hw hk hF hnk hP1 hD1 hS1 hl (fun ad' => by rw [hA.2])
theorem w_newJ (C : Cx l p s m args meth c cc own nL D cA b0 tab) {k N i : Nat} (hi : cn k = i) (hd : DI cc pc (.newarray .long) 2 pc') (hw9 : Cond.arrayClass (newarray.typeOf .long) ∈ GW) (hA : LA k N) (hk : k < 100) (hF : fT k (cn k) = []) (hnk : nkl [k] lv st = true) (hb : N ≤ 1000) (hroom : cells + 1 ≤ R.cells ∧ slots + N ≤ R.slots)
    (kk : GR p l e R s m args below meth c nL D cA b0 (cells + 1) (slots + N) Q pc' lv st ad cn M k i) : Wm p l e R s m args below meth c nL D cA b0 cells slots Q pc lv (aI (N : Int) :: st) ad cn M := by
  intro H locs ls hw hS hl
  have EVv := C.2.2.2.2.2.2.2.1
  have ix : ¬ Int32.ofInt (N : Int) < 0 := by rw [z32, e32_lt (by omega) (by omega)]; omega
  have ix2 : (Int32.ofInt (N : Int)).toNatClampNeg = N := by
    show (Int32.ofInt (N : Int)).toInt.toNat = _
    rw [e32 (by omega)]
    exact Int.toNat_natCast N
  refine va_newa (a0 := (N, .inr (.inl (fun _ => Int64.ofInt 0)))) C.1 C.2.1 (C.2.2.2.2.1 _ hw9) rfl EVv.1 (HW_P hw) (HW_D hw) hS EVv.2.2.2.1 (fun _ => rfl) ix ix2 (Nat.le_trans (Nat.mul_le_mul hb (show componentBytes .long ≤ 8 by decide)) (by decide)) hroom.1 hroom.2 hd.1 (fun q cA' H1 hK1 hP1 hD1 hS1 => ?_)
  have e1 : cA' = cA 3 := va_RA_inj (t := .long) (fun _ h => by cases h) ((hK1.2 (tysT cA).length _ (by rw [List.getElem?_append_right (Nat.le_refl _), Nat.sub_self]; rfl)).2) ((EVv.1.2 3 _ rfl).2)
  subst e1
  rw [hd.2]
  exact GR.go hi kk hw hk hF hnk hP1 hD1 hS1 hl (fun ad' => by rw [hA.2])
theorem w_newD (C : Cx l p s m args meth c cc own nL D cA b0 tab) {k N i : Nat} (hi : cn k = i) (hd : DI cc pc (.newarray .double) 2 pc') (hw9 : Cond.arrayClass (newarray.typeOf .double) ∈ GW) (hA : DA k N) (hk : k < 100) (hF : fT k (cn k) = []) (hnk : nkl [k] lv st = true) (hb : N ≤ 1000) (hroom : cells + 1 ≤ R.cells ∧ slots + N ≤ R.slots)
    (kk : GR p l e R s m args below meth c nL D cA b0 (cells + 1) (slots + N) Q pc' lv st ad cn M k i) : Wm p l e R s m args below meth c nL D cA b0 cells slots Q pc lv (aI (N : Int) :: st) ad cn M := by
  intro H locs ls hw hS hl
  have EVv := C.2.2.2.2.2.2.2.1
  have ix : ¬ Int32.ofInt (N : Int) < 0 := by rw [z32, e32_lt (by omega) (by omega)]; omega
  have ix2 : (Int32.ofInt (N : Int)).toNatClampNeg = N := by
    show (Int32.ofInt (N : Int)).toInt.toNat = _
    rw [e32 (by omega)]
    exact Int.toNat_natCast N
  refine va_newa (a0 := (N, .inr (.inr (.inr (.inl (fun _ => 0)))))) C.1 C.2.1 (C.2.2.2.2.1 _ hw9) rfl EVv.1 (HW_P hw) (HW_D hw) hS EVv.2.2.2.1 (fun _ => rfl) ix ix2 (Nat.le_trans (Nat.mul_le_mul hb (show componentBytes .double ≤ 8 by decide)) (by decide)) hroom.1 hroom.2 hd.1 (fun q cA' H1 hK1 hP1 hD1 hS1 => ?_)
  have e1 : cA' = cA 4 := va_RA_inj (t := .double) (fun _ h => by cases h) ((hK1.2 (tysT cA).length _ (by rw [List.getElem?_append_right (Nat.le_refl _), Nat.sub_self]; rfl)).2) ((EVv.1.2 4 _ rfl).2)
  subst e1
  rw [hd.2]
  exact GR.go hi kk hw hk hF hnk hP1 hD1 hS1 hl (fun ad' => by rw [hA.2])
theorem w_newq (C : Cx l p s m args meth c cc own nL D cA b0 tab) {k N t0 idx i : Nat} (hi : cn k = i) {Cn : String} (hd : DI cc pc (.anewarray idx) 3 pc') (hlk : Cond.classLink own idx Cn ∈ GW) (hao : Cn ∈ aoL) (ht : (tysT cA)[t0]? = some (cA t0, .object Cn)) {t : Nat} (hA : RA k N t0 t) (hk : k < 100) (hF : fT k (cn k) = []) (hnk : nkl [k] lv st = true) (hb : N ≤ 1000) (hroom : cells + 1 ≤ R.cells ∧ slots + N ≤ R.slots)
    (kk : GR p l e R s m args below meth c nL D cA b0 (cells + 1) (slots + N) Q pc' lv st ad cn M k i) : Wm p l e R s m args below meth c nL D cA b0 cells slots Q pc lv (aI (N : Int) :: st) ad cn M := by
  intro H locs ls hw hS hl
  have EVv := C.2.2.2.2.2.2.2.1
  have ix : ¬ Int32.ofInt (N : Int) < 0 := by rw [z32, e32_lt (by omega) (by omega)]; omega
  have ix2 : (Int32.ofInt (N : Int)).toNatClampNeg = N := by
    show (Int32.ofInt (N : Int)).toInt.toNat = _
    rw [e32 (by omega)]
    exact Int.toNat_natCast N
  refine va_newq C.1 C.2.1 C.2.2.2.1 (C.2.2.2.2.1 _ hlk) (EVv.2.2.2.2.2.2.2.1.2 _ hao) EVv.1 (HW_P hw) (HW_D hw) hS EVv.2.2.2.1 ix ix2 (by omega) hroom.1 hroom.2 hd.1 (fun q cA' H1 hK1 hP1 hD1 hS1 => ?_)
  have e1 : cA' = cA t0 := va_RA_injO ((hK1.2 (tysT cA).length _ (by rw [List.getElem?_append_right (Nat.le_refl _), Nat.sub_self]; rfl)).2) ((EVv.1.2 t0 _ ht).2)
  subst e1
  rw [hd.2]
  exact GR.go hi kk hw hk hF hnk hP1 hD1 hS1 hl (fun ad' => by rw [hA.2]; rfl)
theorem w_new (C : Cx l p s m args meth c cc own nL D cA b0 tab) {k ci N idx i : Nat} (hi : cn k = i) {Cn : String} {T : u_T} {fs : List Value} (ty : Nat → FieldType) (hd : DI cc pc (.new idx) 3 pc') (hlk : Cond.classLink own idx Cn ∈ GW) (hini : Cond.initialized Cn ∈ GW) (hins : Cond.instantiable Cn N ∈ GW) (hwi : ∀ w ∈ u_ws Cn T N, w ∈ GW) (hty : ∀ k, k < N → parseFieldDescriptor (T k).2.2.1 = some (ty k)) (hc : clT[ci]? = some (Cn, T, N)) (hfs : ∀ j, j < N → defaultValue (ty j) = vp_V fs j)
    (hk : k < 100) (hF : fT k (cn k) = []) (hnk : nkl [k] lv st = true) (hroom : cells + 1 ≤ R.cells ∧ slots + N ≤ R.slots) (he : ∀ (cA : Nat → ClassId) (ad' : Ads), cellG cA ad' k (cn k) (fun _ => 0) (fun _ => none) (fun _ => 0) (fun _ => 0) = .inr (ci, fs))
    (kk : GR p l e R s m args below meth c nL D cA b0 (cells + 1) (slots + N) Q pc' lv st ad cn M k i) : Wm p l e R s m args below meth c nL D cA b0 cells slots Q pc lv st ad cn M := by
  intro H locs ls hw hS hl
  have EVv := C.2.2.2.2.2.2.2.1
  refine va_new C.1 C.2.1 C.2.2.2.2.1 hwi ty hty C.2.2.2.1 (C.2.2.2.2.1 _ hlk) (C.2.2.2.2.1 _ hins) (C.2.2.2.2.1 _ hini) EVv.1 (HW_P hw) (HW_D hw) hS EVv.2.2.2.1 hc hfs hroom.1 hroom.2 hd.1 (fun q H1 hP1 hD1 hS1 => ?_)
  rw [hd.2]
  exact GR.go hi kk hw hk hF hnk hP1 hD1 hS1 hl (he cA)
end Rows
/-! an object under construction becomes one of its kind -/
def cpM (M : Mem) (r k i : Nat) : Mem := (fun k' i' s => if k' = k ∧ i' = i then M.1 r 0 s else M.1 k' i' s, M.2.1, fun k' i' s => if k' = k ∧ i' = i then M.2.2.1 r 0 s else M.2.2.1 k' i' s, M.2.2.2)
theorem cpM_on (M : Mem) (r k i : Nat) : (cpM M r k i).1 k i = M.1 r 0 ∧ (cpM M r k i).2.2.1 k i = M.2.2.1 r 0 := by
  constructor <;> (funext s; exact if_pos ⟨rfl, rfl⟩)
theorem cpM_off (M : Mem) {r k i k' i' : Nat} (h : ¬ (k' = k ∧ i' = i)) : (cpM M r k i).1 k' i' = M.1 k' i' ∧ (cpM M r k i).2.2.1 k' i' = M.2.2.1 k' i' := by
  constructor <;> (funext s; exact if_neg h)
theorem tgK_lt {k s t : Nat} (h : tgK k s = some t) : t < 90 := by
  unfold tgK at h
  split at h <;> first | (cases h; done) | (cases h; decide) | (split at h <;> first | (cases h; done) | (cases h; decide))
theorem fT_lt {k i : Nat} {q : Nat × Nat} (h : q ∈ fT k i) : q.1 < 90 := by
  have h1 : (fT k i).all (fun q => Nat.blt q.1 90) = true := by
    unfold fT
    split <;> rfl
  exact Nat.lt_of_lt_of_le (Nat.le_of_ble_eq_true (List.all_eq_true.mp h1 q h)) (Nat.le_refl _)
def cnC (cn : Nat → Nat) (r k : Nat) : Nat → Nat := up1 (up1 cn r 0) k (cn k + 1)
theorem HW.commit {D : va_G} {cA : Nat → ClassId} {b0 : Nat → Prop} {ad : Ads} {cn : Nat → Nat} {M : Mem} {H : Heap} (r k : Nat) (hw : HW D cA b0 ad cn M H) (hr : 90 ≤ r) (hk : k < 90) (hcr : cn r = 1) (hF : ∀ q ∈ fT k (cn k), q.1 ≠ k ∧ inD cn q.1 q.2) (hV : ∀ s, tgK k s = none) (hrF : fT r 0 = [])
    (he : ∀ ad' : Ads, cellG cA ad' k (cn k) (M.1 r 0) (M.2.1 k (cn k)) (M.2.2.1 r 0) (M.2.2.2 k (cn k)) = cellG cA ad' r 0 (M.1 r 0) (M.2.1 r 0) (M.2.2.1 r 0) (M.2.2.2 r 0)) : HW D cA b0 (adN ad k (cn k) (ad r 0)) (cnC cn r k) (cpM M r k (cn k)) H := by
  obtain ⟨h1, h2, h3, h4, h5, h6⟩ := hw
  have hd : ∀ k' i', inD (cnC cn r k) k' i' ↔ (k' ≠ r ∧ inD cn k' i') ∨ (k' = k ∧ i' = cn k) := by
    intro k' i'
    unfold inD cnC up1
    by_cases e1 : k' = k
    · subst e1
      rw [if_pos rfl]
      omega
    · rw [if_neg e1]
      by_cases e2 : k' = r
      · rw [if_pos e2]
        omega
      · rw [if_neg e2]
        omega
  have hin0 : inD cn r 0 := by unfold inD; omega
  have hne : ∀ k' i', inD cn k' i' → ¬ (k' = k ∧ i' = cn k) := fun k' i' h g => by
    obtain ⟨rfl, rfl⟩ := g
    exact Nat.lt_irrefl _ h
  have hag : ∀ k' i', inD cn k' i' → adN ad k (cn k) (ad r 0) k' i' = ad k' i' := fun k' i' h => adN_off ad _ (hne k' i' h)
  have hap : ∀ k' i', k' ≠ r → inD cn k' i' → ad k' i' ≠ ad r 0 := fun k' i' h h' g => h (h2 _ _ _ _ h' hin0 g).1
  refine ⟨fun k' i' h => ?_, fun k' i' k2 i2 h g e9 => ?_, fun k' i' h => ?_, fun k' hk' => ?_, fun k' i' s j t h hj ht => ?_, fun k' i' h q9 hq9 => ?_⟩
  · rcases (hd _ _).mp h with ⟨h, h'⟩ | ⟨rfl, rfl⟩
    · obtain ⟨z1, z2⟩ := cpM_off M (r := r) (hne k' i' h')
      rw [hag k' i' h']
      have e1 : cM cA (adN ad k (cn k) (ad r 0)) (cpM M r k (cn k)) k' i' = cM cA ad M k' i' := by
        rw [← cM_ag h5 h6 h' hag]
        unfold cM
        rw [z1, z2]
        rfl
      rw [e1]
      exact h1 _ _ h'
    · obtain ⟨z1, z2⟩ := cpM_on M r k' (cn k')
      rw [adN_on]
      have e1 : cM cA (adN ad k' (cn k') (ad r 0)) (cpM M r k' (cn k')) k' (cn k') = cM cA ad M r 0 := by
        rw [← cM_ag h5 h6 hin0 hag]
        unfold cM
        rw [z1, z2]
        exact he _
      rw [e1]
      exact h1 _ _ hin0
  · rcases (hd _ _).mp h with ⟨u, u'⟩ | ⟨rfl, rfl⟩ <;> rcases (hd _ _).mp g with ⟨v, v'⟩ | ⟨rfl, rfl⟩
    · rw [hag _ _ u', hag _ _ v'] at e9
      exact h2 _ _ _ _ u' v' e9
    · rw [hag _ _ u', adN_on] at e9
      exact absurd e9 (hap _ _ u u')
    · rw [hag _ _ v', adN_on] at e9
      exact absurd e9.symm (hap _ _ v v')
    · exact ⟨rfl, rfl⟩
  · rcases (hd _ _).mp h with ⟨h, h'⟩ | ⟨rfl, rfl⟩
    · rw [hag _ _ h']; exact h3 _ _ h'
    · rw [adN_on]; exact h3 _ _ hin0
  · unfold cnC up1
    rw [if_neg (by omega), if_neg (by intro e; subst e; have := h4 k' hk'; omega)]
    exact h4 k' hk'
  · have hlt := tgK_lt ht
    rcases (hd _ _).mp h with ⟨h, h'⟩ | ⟨rfl, rfl⟩
    · exact (hd _ _).mpr (Or.inl ⟨by omega, h5 k' i' s j t h' hj ht⟩)
    · rw [hV] at ht
      cases ht
  · have hlt := fT_lt hq9
    rcases (hd _ _).mp h with ⟨h, h'⟩ | ⟨rfl, rfl⟩
    · exact (hd _ _).mpr (Or.inl ⟨by omega, h6 k' i' h' q9 hq9⟩)
    · exact (hd _ _).mpr (Or.inl ⟨by omega, (hF q9 hq9).2⟩)
def rpv (r k i : Nat) (v : AV) : AV := match v with
  | .inr (.inl (some p)) => if p.1 = r ∧ p.2 = 0 then aO k i else v
  | _ => v
theorem rpv_tv {r k i : Nat} {ad ad' : Ads} (h1 : ad' k i = ad r 0) (h2 : ∀ k' i', k' ∉ [k] → ad' k' i' = ad k' i') {v : AV} (hv : ∀ k' ∈ [k], nkv k' v = true) : tv ad' (rpv r k i v) = tv ad v := by
  rcases v with x | (_ | q) | x | x | x <;> try rfl
  unfold rpv
  show tv ad' (if q.1 = r ∧ q.2 = 0 then aO k i else aO q.1 q.2) = _
  split
  · rename_i h
    show Value.ref _ = Value.ref _
    rw [h1, h.1, h.2]
  · exact tv_nk h2 hv
theorem rpv_cat (r k i : Nat) (v : AV) : cat2 (rpv r k i v) = cat2 v := by
  rcases v with x | (_ | q) | x | x | x <;> try rfl
  unfold rpv
  show cat2 (if q.1 = r ∧ q.2 = 0 then aO k i else aO q.1 q.2) = _
  split <;> rfl
theorem rpv_ag {r k i : Nat} {ad ad' : Ads} {lv : Lv} {st : List AV} (h : nkl [k] lv st = true) (h1 : ad' k i = ad r 0) (h2 : ∀ k' i', k' ∉ [k] → ad' k' i' = ad k' i') : lvm ad' (lv.map fun q => (q.1, rpv r k i q.2)) = lvm ad lv ∧ (st.map (rpv r k i)).map (tv ad') = st.map (tv ad) := by
  have h0 := List.all_eq_true.mp h
  unfold lvm
  rw [List.map_map, List.map_map]
  refine ⟨List.map_congr_left fun q hq => ?_, List.map_congr_left fun v hv => rpv_tv h1 h2 fun k' hk => ?_⟩
  · show (q.1, tv ad' (rpv r k i q.2)) = (q.1, tv ad q.2)
    rw [rpv_tv h1 h2 fun k' hk => ?_]
    have := h0 k' hk
    rw [Bool.and_eq_true] at this
    exact List.all_eq_true.mp this.1 q hq
  · have := h0 k' hk
    rw [Bool.and_eq_true] at this
    exact List.all_eq_true.mp this.2 v hv
section Rows
variable {p : Program} {l : Launch} {e : Env} {R : Room} {s : State} {m : MethodId} {args : Array Value} {below : List Frame} {meth : Method} {c : Code} {nL : Nat} {D : va_G} {cA : Nat → ClassId} {b0 : Nat → Prop} {cells slots : Nat} {Q : State → Prop} {lv : Lv} {st : List AV} {ad : Ads} {cn : Nat → Nat} {M : Mem} {cc : ByteArray} {own : String} {tab : List ExceptionTableEntry} {pc pc' : Nat}
theorem Wm.commit (r k i : Nat) (hi : cn k = i) (hr : 90 ≤ r) (hk : k < 90) (hcr : cn r = 1) (hF : ∀ q ∈ fT k i, q.1 ≠ k ∧ inD cn q.1 q.2) (hV : ∀ s, tgK k s = none) (hrF : fT r 0 = []) (hnk : nkl [k] lv st = true)
    (he : ∀ ad' : Ads, cellG cA ad' k i (M.1 r 0) (M.2.1 k i) (M.2.2.1 r 0) (M.2.2.2 k i) = cellG cA ad' r 0 (M.1 r 0) (M.2.1 r 0) (M.2.2.1 r 0) (M.2.2.2 r 0))
    (kk : ∀ ad' : Ads, ad' k i = ad r 0 → (∀ k' i', ¬ (k' = k ∧ i' = i) → ad' k' i' = ad k' i') → Wm p l e R s m args below meth c nL D cA b0 cells slots Q pc (lv.map fun q => (q.1, rpv r k i q.2)) (st.map (rpv r k i)) ad' (up1 (up1 cn r 0) k (i + 1)) (cpM M r k i)) : Wm p l e R s m args below meth c nL D cA b0 cells slots Q pc lv st ad cn M := by
  subst hi
  intro H locs ls hw hS hl
  have hag : ∀ k' i', k' ∉ [k] → adN ad k (cn k) (ad r 0) k' i' = ad k' i' := fun k' i' h => adN_off ad _ (fun g => h (by simp [g.1]))
  obtain ⟨a1, a2⟩ := rpv_ag (r := r) (i := cn k) hnk (adN_on ad k (cn k) (ad r 0)) hag
  have k9 := kk (adN ad k (cn k) (ad r 0)) (adN_on ad k (cn k) (ad r 0)) (fun k' i' h => adN_off ad _ h) H locs ls (HW.commit r k hw hr hk hcr hF hV hrF he) hS (by rw [a1]; exact hl)
  rw [a2] at k9
  exact k9
end Rows
/-! a method that makes cells -/
abbrev PN : Type := Option AV → Ads → (Nat → Nat) → Mem → Prop
def mQN (D : va_G) (cA : Nat → ClassId) (b0 : Nat → Prop) (P : PN) : Array Value → State → Outcome → State → Prop := fun _ st oc t => ∃ (r : Option AV) (ad' : Ads) (cn' : Nat → Nat) (M : Mem), oc = .returned (r.map (tv ad')) ∧ P r ad' cn' M ∧ HW D cA b0 ad' cn' M t.heap ∧ va_F b0 st t
def ConN (l : Launch) (b0 : Nat → Prop) (y : MethodName) (cc : ByteArray) (nL : Nat) (ret : Option FieldType) (d mc ms : Nat) (as : List AV) (ad : Ads) (cn : Nat → Nat) (M : Mem) (P : PN) (X : PX) : Prop :=
  ∀ (D : va_G) (cA : Nat → ClassId), vx_Met l y (.code y cc nL ret :: GW) (rmd d mc ms) (va_Pc (as.map (tv ad)) (fun U => HW D cA b0 ad cn M U.heap ∧ EV D cA b0 U)) (mQN D cA b0 P) (mX D cA b0 ad cn X) mc ms b0
theorem my_callN {p : Program} {l : Launch} {e : Env} {R : Room} {s : State} {m : MethodId} {args : Array Value} {below : List Frame} {meth : Method} {c : Code} {D : va_G} {cA : Nat → ClassId} {b0 : Nat → Prop} {cells slots : Nat} {Q : State → Prop} {ad : Ads} {cn : Nat → Nat} {P : PN} {X : PX} {mc ms pc : Nat} {ls : Array Slot} {st0 rest : List Value} {a : Array Value} {H : Heap} {locs : List Loc}
    (hr : vx_Run p l e R s m args below meth c H locs cells slots mc ms (F0 m pc ls st0) rest (mQN D cA b0 P a) (mX D cA b0 ad cn X) b0) (hS : va_S b0 s.heap H locs)
    (kx : ∀ (E : String) (ce : Cell) (q9 : Addr) (M' : Mem) (H1 : Heap) (locs1 : List Loc), X E M' → HW D cA b0 ad cn M' H1 → va_S b0 s.heap H1 locs1 → H1[q9]? = some ce → ce.vm = .none → s.vm.findClass E = some ce.cls → vx_W p l e R s m args below meth c H1 locs1 (cells + mc) (slots + ms) Q (F0 m pc ls rest) q9)
    (kk : ∀ (r : Option AV) (ad' : Ads) (cn' : Nat → Nat) (M' : Mem) (H1 : Heap) (locs1 : List Loc), P r ad' cn' M' → HW D cA b0 ad' cn' M' H1 → va_S b0 s.heap H1 locs1 → W p l e R s m args below meth c H1 locs1 (cells + mc) (slots + ms) Q (F0 m (pc + 3) ls ((r.map (tv ad')).toList ++ rest))) :
    W p l e R s m args below meth c H locs cells slots Q (F0 m pc ls st0) := by
  intro T hT X0
  rcases hr T hT X0 with ⟨v, st₀, t, T', L, h0, X', hL, e1, e2, ⟨r, ad', cn', M', hv, hp, hb, hF⟩, st1⟩ | ⟨q, st₀, t, T', L, E, ce, h0, X', hL, e1, e2, ⟨M', hp, hb, hF⟩, hce, hcv, hcl, st1⟩
  · cases hv
    obtain ⟨k1, k2, k3⟩ := vx_keep h0 e1 hS (fun _ _ h => h) (fun _ h => h) hL hF
    obtain ⟨t2, a1, b1⟩ := kk r ad' cn' M' T'.heap (locs ++ L) hp (by rw [e1]; exact hb) k3 T' rfl X'
    exact ⟨t2, st1 t2 a1, b1⟩
  · obtain ⟨k1, k2, k3⟩ := vx_keep h0 e1 hS (fun _ _ h => h) (fun _ h => h) hL hF
    obtain ⟨t2, a1, b1⟩ := kx E ce q M' T'.heap (locs ++ L) hp (by rw [e1]; exact hb) k3 (by rw [e1]; exact hce) hcv hcl T' rfl X'
    exact ⟨t2, st1.trans a1, b1⟩
theorem tv_keep {ad ad' : Ads} {r k i : Nat} (h : ad' k i = ad r 0) : tv ad' (aO k i) = tv ad (aO r 0) := by
  show Value.ref _ = Value.ref _
  rw [h]
section Rows
variable {p : Program} {l : Launch} {e : Env} {R : Room} {s : State} {m : MethodId} {args : Array Value} {below : List Frame} {meth : Method} {c : Code} {nL : Nat} {D : va_G} {cA : Nat → ClassId} {b0 : Nat → Prop} {cells slots : Nat} {Q : State → Prop} {lv : Lv} {st : List AV} {ad : Ads} {cn : Nat → Nat} {M : Mem} {cc : ByteArray} {own : String} {tab : List ExceptionTableEntry} {pc pc' : Nat}
/-- new C(..): the stack holds the object twice, then the arguments -/
theorem w_ctor (C : Cx l p s m args meth c cc own nL D cA b0 tab) {P : PN} {mc ms : Nat} {y : MethodName} {bytes : ByteArray} {maxL n d idx r k i i0 : Nat} {ks : List Nat} {as stk : List AV} (hd : DI cc pc (.invokespecial idx) 3 pc') (hcon : ConN l b0 y bytes maxL none d mc ms (aO r i0 :: as) ad cn M P (fun _ _ => False)) (hm : MOK y bytes maxL none n) (hv : y.name = "<init>" ∧ Cond.instanceMethod y ∈ GW) (hk : Cond.methodLink own idx y ∈ GW)
    (hst : stk = as.reverse ++ aO r i0 :: aO r i0 :: st) (hn : as.length = n) (hroom : d + 1 ≤ R.frames ∧ 8 + (maxL + 11) + 40 * d ≤ R.locals ∧ cells + mc ≤ R.cells ∧ slots + ms ≤ R.slots) (hwt : (st.map fun v => if cat2 v then 2 else 1).sum ≤ 7) (hnk : nkl ks lv st = true)
    (hP : ∀ r' ad' cn' M', P r' ad' cn' M' → r' = none ∧ ad' k i = ad r i0 ∧ ∀ k' i', k' ∉ ks → ad' k' i' = ad k' i')
    (kk : ∀ (ad' : Ads) (cn' : Nat → Nat) (M' : Mem), P none ad' cn' M' → Wm p l e R s m args below meth c nL D cA b0 (cells + mc) (slots + ms) Q pc' lv (aO k i :: st) ad' cn' M') : Wm p l e R s m args below meth c nL D cA b0 cells slots Q pc lv stk ad cn M := by
  intro H locs ls hw hS hl
  have hN : ∀ sig, parseMethodDescriptor y.desc = some sig → n = sig.parameters.length := fun sig h => by
    have h2 := hm.2.2.2
    rw [h] at h2
    exact (Option.some.inj h2).symm
  refine my_callN (rest := (aO r i0 :: st).map (tv ad)) (vx_runI (n := n) (b := ad r i0) (As := as.map (tv ad)) (rest := (aO r i0 :: st).map (tv ad)) ⟨C.1, C.2.1, C.2.2.1, C.2.2.2.1, C.2.2.2.2.1⟩ (hcon D cA) ⟨⟨rfl, rfl, hroom.1, hroom.2.1, ws_good hm.2.1 C.2.2.2.2.1, List.mem_cons_self, C.2.2.2.2.1 _ hm.2.1, C.2.2.2.2.1 _ hm.1, hm.2.2.1, hN, C.2.2.2.2.1 _ hk⟩, hv.1, C.2.2.2.2.1 _ hv.2⟩ ⟨con_blind, fun U hU hW => ⟨rfl, by rw [hU]; exact hw, EV.warm hW (by rw [hU]; exact hS) C.2.2.2.2.2.2.2.1⟩⟩ rfl (by rw [List.length_map]; exact hn) hl.1 (by rw [hst]; simp [List.map_append, List.map_reverse]; rfl) (lv_room (by rw [stk_cat]; simp only [List.map_cons, List.sum_cons]; have : cat2 (aO r i0) = false := rfl; rw [this]; simp; omega)) hd.1 ⟨hroom.2.2.1, hroom.2.2.2⟩) hS (fun E ce q9 M' H1 locs1 hX hw1 hS1 h1 h2 h3 => hX.elim) (fun r' ad' cn' M' H1 locs1 hp hw1 hS1 => ?_)
  obtain ⟨rfl, g1, g2⟩ := hP r' ad' cn' M' hp
  obtain ⟨a1, a2⟩ := nkl_ag hnk g2
  have k9 := kk ad' cn' M' hp H1 locs1 ls hw1 hS1 (by rw [a1]; exact hl)
  rw [← hd.2, List.map_cons, a2] at k9
  have e1 : tv ad' (aO k i) = tv ad (aO r i0) := by
    show Value.ref _ = Value.ref _
    rw [g1]
  rw [e1] at k9
  exact k9
theorem w_objInit (C : Cx l p s m args meth c cc own nL D cA b0 tab) {idx r i0 : Nat} (hd : DI cc pc (.invokespecial idx) 3 pc') (hk : Cond.methodLink own idx Lib.objectInit ∈ GW) (h1 : Cond.instanceMethod Lib.objectInit ∈ GW) (h2 : Cond.code Lib.objectInit ⟨#[0xb1]⟩ 1 none ∈ GW) (hroom : 1 ≤ R.frames ∧ 20 ≤ R.locals) (hwt : (st.map fun v => if cat2 v then 2 else 1).sum ≤ 8) (kk : Wm p l e R s m args below meth c nL D cA b0 cells slots Q pc' lv st ad cn M) : Wm p l e R s m args below meth c nL D cA b0 cells slots Q pc lv (aO r i0 :: st) ad cn M := by
  intro H locs ls hw hS hl
  have k9 := kk H locs ls hw hS hl
  rw [← hd.2] at k9
  exact W.objInit C.1 C.2.1 C.2.2.2.1 (C.2.2.2.2.1 _ hk) (C.2.2.2.2.1 _ h1) (C.2.2.2.2.1 _ h2) (g := F0 m pc ls (.ref (ad r i0) :: st.map (tv ad))) rfl (hl.1.trans C.2.2.1.symm) rfl hd.1 hroom.1 (Nat.le_trans (Nat.add_le_add_right (lv_room (by rw [stk_cat]; exact hwt)) 12) (by omega)) k9
theorem w_vretN (C : Cx l p s m args meth c cc own nL D cA b0 tab) {P : PN} {X : PX} {mc ms : Nat} {ad0 : Ads} {cn0 : Nat → Nat} (hr : meth.sig.returnType = none) (hd : DI cc pc .return_ 1 pc') (hp : P none ad cn M) (hc : cells ≤ mc) (hs : slots ≤ ms) : Wm p l e R s m args below meth c nL D cA b0 cells slots (vx_MQ below (mQN D cA b0 P) (mX D cA b0 ad0 cn0 X) args s mc ms b0) pc lv [] ad cn M := fun H locs ls hw hS hl =>
  W.widen hc hs (vx_ret (W.vret C.1 C.2.1 hr (fun t ht hW => ⟨none, ad, cn, M, rfl, hp, by rw [ht]; exact hw, hS.F ht⟩) hS.2.2 hd.1 C.2.2.2.2.2.1))
theorem w_iretN (C : Cx l p s m args meth c cc own nL D cA b0 tab) {z : Int} {ty : FieldType} {P : PN} {X : PX} {mc ms : Nat} {ad0 : Ads} {cn0 : Nat → Nat} (hr : meth.sig.returnType = some ty) (hd : DI cc pc .ireturn 1 pc') (hn : narrow ty (.int (Int32.ofInt z)) = .int (Int32.ofInt z)) (hp : P (some (aI z)) ad cn M) (hc : cells ≤ mc) (hs : slots ≤ ms) : Wm p l e R s m args below meth c nL D cA b0 cells slots (vx_MQ below (mQN D cA b0 P) (mX D cA b0 ad0 cn0 X) args s mc ms b0) pc lv [aI z] ad cn M := fun H locs ls hw hS hl =>
  W.widen hc hs (vx_ret (W.zret C.1 C.2.1 hr hn (fun t ht hW => ⟨some (aI z), ad, cn, M, rfl, hp, by rw [ht]; exact hw, hS.F ht⟩) hS.2.2 hd.1 C.2.2.2.2.2.1))
theorem ConN.of {y : MethodName} {nLx d mc ms : Nat} {ret : Option FieldType} {as : List AV} {P : PN} {X : PX} (hl : l.stackTraces = false) (hpl : plainName y.cls = true) (hlen : (as.map fun v => if cat2 v then 2 else 1).sum ≤ nLx)
    (body : ∀ (D : va_G) (cA : Nat → ClassId) (p : Program) (e : Env) (s : State) (m : MethodId) (args : Array Value) (below : List Frame) (meth : Method) (c : Code), Cx l p s m args meth c cc y.cls nLx D cA b0 [] → meth.sig.returnType = ret → meth.name = y.name →
      Wm p l e (rmd d mc ms) s m args below meth c nLx D cA b0 0 0 (vx_MQ below (mQN D cA b0 P) (mX D cA b0 ad cn X) args s mc ms b0) 0 (avargs 0 as) [] ad cn M) : ConN l b0 y cc nLx ret d mc ms as ad cn M P X := by
  intro D cA
  refine vx_ofW (cc := cc) (maxL := nLx) (ret := ret) hpl rfl ?_
  intro p e s m args below meth c s₁ B hml ht hv
  obtain ⟨rfl, hw, hev⟩ := hv
  have hts := atoms_spec (ws := .code y cc nLx ret :: GW) B.pre
  have hown : s.vm.findClass y.cls = some m.cls := findClass_of_methodNamed B.named
  have htab : c.exceptionTable.toList = [] := List.eq_nil_iff_forall_not_mem.mpr ht
  have C : Cx l p s m (as.map (tv ad)).toArray meth c cc y.cls nLx D cA b0 [] := ⟨B.exec, B.bytes, hml, hown, fun w h => hts w (List.mem_cons_of_mem _ h), B.notSynchronized, hl, hev, htab⟩
  have k := body D cA p e s m _ below meth c C B.returns (name_of_methodNamed B.named B.method).1
  have hent := lv_entry (as.map (tv ad)) (n := nLx) (by rw [sl_len]; exact hlen)
  rw [avargs_lv] at hent
  rw [lg_entry_eq]
  exact k s.heap [] _ hw va_S.rf hent
/-- a field that only a constructor writes -/
theorem w_putF (C : Cx l p s m args meth c cc own nL D cA b0 tab) {k i ci N index sl : Nat} {Cn : String} {T : u_T} {fs : List Value} {v : AV} {M' : Mem} {ty : FieldType} (ty0 : Nat → FieldType) (hnam : meth.name = "<init>") (hd : DI cc pc (.putfield index) 3 pc') (hin : inD cn k i) (he : cM cA ad M k i = .inr (ci, fs)) (hc : clT[ci]? = some (Cn, T, N)) (hsl : sl < N) (hfl : sl < fs.length) (hws : ∀ w ∈ u_ws Cn T N, w ∈ GW) (hlk : Cond.fieldLink own index Cn (T sl).2.1 (T sl).2.2.1 ∈ GW) (hown : (T sl).1 = Cn) (hdecl : (T sl).1 = own)
    (hty : ∀ k, k < N → parseFieldDescriptor (T k).2.2.1 = some (ty0 k)) (hnm : ∀ a, a < N → ∀ b, b < N → a ≠ b → (T a).2.1 ≠ (T b).2.1) (hfin : (T sl).2.2.2 = true) (hd0 : parseFieldDescriptor (T sl).2.2.1 = some ty) (hn : narrow ty (tv ad v) = tv ad v) (hfit : fits ty (tv ad v) = true) (hM : cM cA ad M' k i = .inr (ci, fs.set sl (tv ad v))) (hM' : ∀ k' i', ¬ (k' = k ∧ i' = i) → cM cA ad M' k' i' = cM cA ad M k' i') (hcl : ClM cn M → ClM cn M')
    (kk : Wm p l e R s m args below meth c nL D cA b0 cells slots Q pc' lv st ad cn M') : Wm p l e R s m args below meth c nL D cA b0 cells slots Q pc lv (v :: aO k i :: st) ad cn M := by
  intro H locs ls hw hS hl
  obtain ⟨q0, hq⟩ := wsM_get (hb := hw.2.2.2.1) (cA := cA) (ad := ad) (M := M) hin
  refine va_putF C.1 C.2.1 C.2.2.2.2.1 hws ty0 hty hnm C.2.2.2.1 C.2.2.2.2.2.2.2.1.1 (HW_P hw) (HW_D hw) hS q0 (cM_of hq he) hc sl hsl (C.2.2.2.2.1 _ hlk) (fun x hx => by rw [hown] at hx; exact hx) hfin hnam hdecl hd0 hn hfit hfl hd.1 (fun H1 locs1 hP1 hD1 hS1 => ?_)
  have k9 := kk H1 locs1 ls (HW_put hw hin hq (by rw [hM]; exact hP1) hM' (hcl hw.2.2.2.2.1)) hS1 hl
  rw [← hd.2] at k9
  exact k9
end Rows
