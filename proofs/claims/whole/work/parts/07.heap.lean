/-! arrays of a kind: IA numbers, ZA truth values, CA characters, RA references, LA longs, DA doubles -/
def IA (k n : Nat) : Prop := n ≤ 2147483647 ∧ ∀ (cA : Nat → ClassId) (ad : Ads) (i : Nat) (f : Nat → Int) (g : Nat → Option Nat) (h : Nat → Int) (d : Nat → UInt64), cellG cA ad k i f g h d = .inl (cA 0, n, .inl (fun j => Int32.ofInt (f j)))
def ZA (k n : Nat) : Prop := n ≤ 2147483647 ∧ ∀ (cA : Nat → ClassId) (ad : Ads) (i : Nat) (f : Nat → Int) (g : Nat → Option Nat) (h : Nat → Int) (d : Nat → UInt64), cellG cA ad k i f g h d = .inl (cA 1, n, .inl (fun j => Int32.ofInt (f j)))
def CA (k n : Nat) : Prop := n ≤ 2147483647 ∧ ∀ (cA : Nat → ClassId) (ad : Ads) (i : Nat) (f : Nat → Int) (g : Nat → Option Nat) (h : Nat → Int) (d : Nat → UInt64), cellG cA ad k i f g h d = .inl (cA 2, n, .inl (fun j => Int32.ofInt (f j)))
def RA (k n q t : Nat) : Prop := n ≤ 2147483647 ∧ ∀ (cA : Nat → ClassId) (ad : Ads) (i : Nat) (f : Nat → Int) (g : Nat → Option Nat) (h : Nat → Int) (d : Nat → UInt64), cellG cA ad k i f g h d = .inl (cA q, n, .inr (.inr (.inr (.inr (fun j => (g j).map (ad t))))))
def LA (k n : Nat) : Prop := n ≤ 2147483647 ∧ ∀ (cA : Nat → ClassId) (ad : Ads) (i : Nat) (f : Nat → Int) (g : Nat → Option Nat) (h : Nat → Int) (d : Nat → UInt64), cellG cA ad k i f g h d = .inl (cA 3, n, .inr (.inl (fun j => Int64.ofInt (h j))))
def DA (k n : Nat) : Prop := n ≤ 2147483647 ∧ ∀ (cA : Nat → ClassId) (ad : Ads) (i : Nat) (f : Nat → Int) (g : Nat → Option Nat) (h : Nat → Int) (d : Nat → UInt64), cellG cA ad k i f g h d = .inl (cA 4, n, .inr (.inr (.inr (.inl d))))
theorem RA_10 : RA 10 8 5 4 := ⟨by decide, fun _ _ _ _ _ _ _ => rfl⟩
theorem RA_11 : RA 11 4 6 6 := ⟨by decide, fun _ _ _ _ _ _ _ => rfl⟩
theorem RA_12 : RA 12 40 7 3 := ⟨by decide, fun _ _ _ _ _ _ _ => rfl⟩
theorem RA_13 : RA 13 8 8 5 := ⟨by decide, fun _ _ _ _ _ _ _ => rfl⟩
theorem IA_20 : IA 20 60 := ⟨by decide, fun _ _ _ _ _ _ _ => rfl⟩
theorem IA_21 : IA 21 60 := ⟨by decide, fun _ _ _ _ _ _ _ => rfl⟩
theorem IA_22 : IA 22 720 := ⟨by decide, fun _ _ _ _ _ _ _ => rfl⟩
theorem IA_23 : IA 23 60 := ⟨by decide, fun _ _ _ _ _ _ _ => rfl⟩
theorem IA_24 : IA 24 4 := ⟨by decide, fun _ _ _ _ _ _ _ => rfl⟩
theorem IA_25 : IA 25 4 := ⟨by decide, fun _ _ _ _ _ _ _ => rfl⟩
theorem IA_26 : IA 26 60 := ⟨by decide, fun _ _ _ _ _ _ _ => rfl⟩
theorem IA_27 : IA 27 16 := ⟨by decide, fun _ _ _ _ _ _ _ => rfl⟩
theorem IA_28 : IA 28 4 := ⟨by decide, fun _ _ _ _ _ _ _ => rfl⟩
theorem IA_29 : IA 29 16 := ⟨by decide, fun _ _ _ _ _ _ _ => rfl⟩
theorem IA_30 : IA 30 5 := ⟨by decide, fun _ _ _ _ _ _ _ => rfl⟩
theorem IA_31 : IA 31 5 := ⟨by decide, fun _ _ _ _ _ _ _ => rfl⟩
theorem IA_32 : IA 32 8 := ⟨by decide, fun _ _ _ _ _ _ _ => rfl⟩
theorem ZA_41 : ZA 41 720 := ⟨by decide, fun _ _ _ _ _ _ _ => rfl⟩
theorem ZA_42 : ZA 42 8 := ⟨by decide, fun _ _ _ _ _ _ _ => rfl⟩
theorem ZA_43 : ZA 43 200 := ⟨by decide, fun _ _ _ _ _ _ _ => rfl⟩
theorem ZA_44 : ZA 44 8 := ⟨by decide, fun _ _ _ _ _ _ _ => rfl⟩
theorem ZA_45 : ZA 45 40 := ⟨by decide, fun _ _ _ _ _ _ _ => rfl⟩
theorem ZA_46 : ZA 46 40 := ⟨by decide, fun _ _ _ _ _ _ _ => rfl⟩
theorem CA_47 : CA 47 8 := ⟨by decide, fun _ _ _ _ _ _ _ => rfl⟩
theorem IA_48 : IA 48 8 := ⟨by decide, fun _ _ _ _ _ _ _ => rfl⟩
theorem IA_49 : IA 49 8 := ⟨by decide, fun _ _ _ _ _ _ _ => rfl⟩
theorem IA_50 : IA 50 8 := ⟨by decide, fun _ _ _ _ _ _ _ => rfl⟩
theorem IA_51 : IA 51 8 := ⟨by decide, fun _ _ _ _ _ _ _ => rfl⟩
theorem IA_52 : IA 52 16 := ⟨by decide, fun _ _ _ _ _ _ _ => rfl⟩
theorem IA_53 : IA 53 40 := ⟨by decide, fun _ _ _ _ _ _ _ => rfl⟩
theorem IA_54 : IA 54 40 := ⟨by decide, fun _ _ _ _ _ _ _ => rfl⟩
theorem IA_55 : IA 55 40 := ⟨by decide, fun _ _ _ _ _ _ _ => rfl⟩
theorem IA_56 : IA 56 40 := ⟨by decide, fun _ _ _ _ _ _ _ => rfl⟩
theorem IA_57 : IA 57 40 := ⟨by decide, fun _ _ _ _ _ _ _ => rfl⟩
theorem IA_58 : IA 58 720 := ⟨by decide, fun _ _ _ _ _ _ _ => rfl⟩
theorem IA_59 : IA 59 4 := ⟨by decide, fun _ _ _ _ _ _ _ => rfl⟩
theorem IA_60 : IA 60 4 := ⟨by decide, fun _ _ _ _ _ _ _ => rfl⟩
theorem IA_61 : IA 61 32 := ⟨by decide, fun _ _ _ _ _ _ _ => rfl⟩
theorem IA_62 : IA 62 4 := ⟨by decide, fun _ _ _ _ _ _ _ => rfl⟩
theorem IA_63 : IA 63 25 := ⟨by decide, fun _ _ _ _ _ _ _ => rfl⟩
theorem IA_64 : IA 64 25 := ⟨by decide, fun _ _ _ _ _ _ _ => rfl⟩
theorem IA_65 : IA 65 4 := ⟨by decide, fun _ _ _ _ _ _ _ => rfl⟩
theorem IA_66 : IA 66 40 := ⟨by decide, fun _ _ _ _ _ _ _ => rfl⟩
theorem IA_67 : IA 67 40 := ⟨by decide, fun _ _ _ _ _ _ _ => rfl⟩
theorem IA_68 : IA 68 40 := ⟨by decide, fun _ _ _ _ _ _ _ => rfl⟩
theorem IA_69 : IA 69 40 := ⟨by decide, fun _ _ _ _ _ _ _ => rfl⟩
theorem IA_70 : IA 70 40 := ⟨by decide, fun _ _ _ _ _ _ _ => rfl⟩
theorem LA_80 : LA 80 1 := ⟨by decide, fun _ _ _ _ _ _ _ => rfl⟩
theorem DA_81 : DA 81 1 := ⟨by decide, fun _ _ _ _ _ _ _ => rfl⟩
theorem upd_map (f : Nat → Int) (s : Nat) (v : Int) : upd (fun j => Int32.ofInt (f j)) s (Int32.ofInt v) = fun j => Int32.ofInt (up1 f s v j) := by
  funext j
  unfold upd up1
  split <;> rfl
theorem updL_map (f : Nat → Int) (s : Nat) (v : Int) : vp_updL (fun j => Int64.ofInt (f j)) s (Int64.ofInt v) = fun j => Int64.ofInt (up1 f s v j) := by
  funext j
  unfold vp_updL up1
  split <;> rfl
theorem updR_map (ad : Nat → Nat) (f : Nat → Option Nat) (s v : Nat) : va_up (fun j => (f j).map ad) s (some (ad v)) = fun j => (up1 f s (some v) j).map ad := by
  funext j
  unfold va_up up1
  split <;> rfl
theorem nar_z {z : Int} (h : z = 0 ∨ z = 1) : vp_nar .boolean (Int32.ofInt z) = Int32.ofInt z := by
  rcases h with rfl | rfl <;> rfl
theorem narrow_z {z : Int} (h : z = 0 ∨ z = 1) : narrow .boolean (.int (Int32.ofInt z)) = .int (Int32.ofInt z) := by
  rcases h with rfl | rfl <;> rfl
theorem fits_z {z : Int} (h : z = 0 ∨ z = 1) : fits .boolean (.int (Int32.ofInt z)) = true := by
  rcases h with rfl | rfl <;> rfl
theorem narrow_c {z : Int} (h : 0 ≤ z ∧ z ≤ 65535) : narrow .char (.int (Int32.ofInt z)) = .int (Int32.ofInt z) ∧ fits .char (.int (Int32.ofInt z)) = true := by
  have e : Int32.ofInt z = nI z.toNat := by
    show _ = Int32.ofNat z.toNat
    rw [← Int32.ofInt_eq_ofNat, Int.toNat_of_nonneg h.1]
  rw [e]
  exact pk_charN (by omega)
theorem nar_c {z : Int} (h : 0 ≤ z ∧ z ≤ 65535) : vp_nar .char (Int32.ofInt z) = Int32.ofInt z := by
  have q := (narrow_c h).1
  unfold vp_nar
  rw [q]
theorem cM_of {cA : Nat → ClassId} {ad : Ads} {M : Mem} {k i : Nat} {e : va_E} {a : Nat} {q0 : Nat} {ws : va_W} (hq : ws[q0]? = some (a, cM cA ad M k i)) (h : cM cA ad M k i = e) : ws[q0]? = some (a, e) := by rw [hq, h]
section Rows
variable {p : Program} {l : Launch} {e : Env} {R : Room} {s : State} {m : MethodId} {args : Array Value} {below : List Frame} {meth : Method} {c : Code} {nL : Nat} {D : va_G} {cA : Nat → ClassId} {b0 : Nat → Prop} {cells slots : Nat} {Q : State → Prop} {lv : Lv} {st : List AV} {ad : Ads} {cn : Nat → Nat} {M : Mem} {cc : ByteArray} {own : String} {tab : List ExceptionTableEntry} {pc pc' : Nat}
theorem w_alen (C : Cx l p s m args meth c cc own nL D cA b0 tab) {k i n : Nat} (hd : DI cc pc .arraylength 1 pc') (hin : inD cn k i) (hk : IA k n ∨ ZA k n ∨ CA k n ∨ ∃ q t, q < 9 ∧ RA k n q t) (kk : Wm p l e R s m args below meth c nL D cA b0 cells slots Q pc' lv (aI n :: st) ad cn M) : Wm p l e R s m args below meth c nL D cA b0 cells slots Q pc lv (aO k i :: st) ad cn M := by
  intro H locs ls hw hS hl
  have k9 := kk H locs ls hw hS hl
  rw [← hd.2] at k9
  have e : (Int32.ofInt (n : Int)) = Int32.ofNat n := Int32.ofInt_eq_ofNat
  obtain ⟨q0, hq⟩ := wsM_get (hb := hw.2.2.2.1) (cA := cA) (ad := ad) (M := M) hin
  rcases hk with h | h | h | ⟨q, t, hq9, h⟩
  · exact va_alen C.1 C.2.1 C.2.2.2.2.2.2.2.1.1 (HW_P hw) q0 0 (cM_of hq (h.2 cA ad i _ _ _ _)) rfl e.symm hd.1 k9
  · exact va_alen C.1 C.2.1 C.2.2.2.2.2.2.2.1.1 (HW_P hw) q0 1 (cM_of hq (h.2 cA ad i _ _ _ _)) rfl e.symm hd.1 k9
  · exact va_alen C.1 C.2.1 C.2.2.2.2.2.2.2.1.1 (HW_P hw) q0 2 (cM_of hq (h.2 cA ad i _ _ _ _)) rfl e.symm hd.1 k9
  · have ht : ∃ ty, (tysT cA)[q]? = some (cA q, ty) := by
      rcases (show q = 0 ∨ q = 1 ∨ q = 2 ∨ q = 3 ∨ q = 4 ∨ q = 5 ∨ q = 6 ∨ q = 7 ∨ q = 8 by omega) with rfl | rfl | rfl | rfl | rfl | rfl | rfl | rfl | rfl <;> exact ⟨_, rfl⟩
    obtain ⟨ty, ht⟩ := ht
    exact va_alen C.1 C.2.1 C.2.2.2.2.2.2.2.1.1 (HW_P hw) q0 q (cM_of hq (h.2 cA ad i _ _ _ _)) ht e.symm hd.1 k9
theorem w_iald (C : Cx l p s m args meth c cc own nL D cA b0 tab) {k i n : Nat} {z : Int} (hd : DI cc pc .iaload 1 pc') (hin : inD cn k i) (hk : IA k n) (hz : 0 ≤ z ∧ z < n) (kk : Wm p l e R s m args below meth c nL D cA b0 cells slots Q pc' lv (aI (M.1 k i z.toNat) :: st) ad cn M) : Wm p l e R s m args below meth c nL D cA b0 cells slots Q pc lv (aI z :: aO k i :: st) ad cn M := by
  intro H locs ls hw hS hl
  have k9 := kk H locs ls hw hS hl
  rw [← hd.2] at k9
  obtain ⟨q0, hq⟩ := wsM_get (hb := hw.2.2.2.1) (cA := cA) (ad := ad) (M := M) hin
  have ix := ix_in hz hk.1
  refine va_iald C.1 C.2.1 C.2.2.2.2.2.2.2.1.1 (HW_P hw) q0 0 (cM_of hq (hk.2 cA ad i _ _ _ _)) rfl ix.1 hd.1 ?_
  rw [ix.2]
  exact k9
theorem w_zald (C : Cx l p s m args meth c cc own nL D cA b0 tab) {k i n : Nat} {z : Int} (hd : DI cc pc .baload 1 pc') (hin : inD cn k i) (hk : ZA k n) (hz : 0 ≤ z ∧ z < n) (kk : Wm p l e R s m args below meth c nL D cA b0 cells slots Q pc' lv (aI (M.1 k i z.toNat) :: st) ad cn M) : Wm p l e R s m args below meth c nL D cA b0 cells slots Q pc lv (aI z :: aO k i :: st) ad cn M := by
  intro H locs ls hw hS hl
  have k9 := kk H locs ls hw hS hl
  rw [← hd.2] at k9
  obtain ⟨q0, hq⟩ := wsM_get (hb := hw.2.2.2.1) (cA := cA) (ad := ad) (M := M) hin
  have ix := ix_in hz hk.1
  refine va_zald C.1 C.2.1 C.2.2.2.2.2.2.2.1.1 (HW_P hw) q0 1 (cM_of hq (hk.2 cA ad i _ _ _ _)) rfl ix.1 hd.1 ?_
  rw [ix.2]
  exact k9
theorem w_cald (C : Cx l p s m args meth c cc own nL D cA b0 tab) {k i n : Nat} {z : Int} (hd : DI cc pc .caload 1 pc') (hin : inD cn k i) (hk : CA k n) (hz : 0 ≤ z ∧ z < n) (kk : Wm p l e R s m args below meth c nL D cA b0 cells slots Q pc' lv (aI (M.1 k i z.toNat) :: st) ad cn M) : Wm p l e R s m args below meth c nL D cA b0 cells slots Q pc lv (aI z :: aO k i :: st) ad cn M := by
  intro H locs ls hw hS hl
  have k9 := kk H locs ls hw hS hl
  rw [← hd.2] at k9
  obtain ⟨q0, hq⟩ := wsM_get (hb := hw.2.2.2.1) (cA := cA) (ad := ad) (M := M) hin
  have ix := ix_in hz hk.1
  refine va_cald C.1 C.2.1 C.2.2.2.2.2.2.2.1.1 (HW_P hw) q0 2 (cM_of hq (hk.2 cA ad i _ _ _ _)) rfl ix.1 hd.1 ?_
  rw [ix.2]
  exact k9
theorem w_lald (C : Cx l p s m args meth c cc own nL D cA b0 tab) {k i n : Nat} {z : Int} (hd : DI cc pc .laload 1 pc') (hin : inD cn k i) (hk : LA k n) (hz : 0 ≤ z ∧ z < n) (kk : Wm p l e R s m args below meth c nL D cA b0 cells slots Q pc' lv (aL (M.2.2.1 k i z.toNat) :: st) ad cn M) : Wm p l e R s m args below meth c nL D cA b0 cells slots Q pc lv (aI z :: aO k i :: st) ad cn M := by
  intro H locs ls hw hS hl
  have k9 := kk H locs ls hw hS hl
  rw [← hd.2] at k9
  obtain ⟨q0, hq⟩ := wsM_get (hb := hw.2.2.2.1) (cA := cA) (ad := ad) (M := M) hin
  have ix := ix_in hz hk.1
  refine va_lald C.1 C.2.1 C.2.2.2.2.2.2.2.1.1 (HW_P hw) q0 3 (cM_of hq (hk.2 cA ad i _ _ _ _)) rfl ix.1 hd.1 ?_
  rw [ix.2]
  exact k9
theorem w_dald (C : Cx l p s m args meth c cc own nL D cA b0 tab) {k i n : Nat} {z : Int} (hd : DI cc pc .daload 1 pc') (hin : inD cn k i) (hk : DA k n) (hz : 0 ≤ z ∧ z < n) (kk : Wm p l e R s m args below meth c nL D cA b0 cells slots Q pc' lv (aD (M.2.2.2 k i z.toNat) :: st) ad cn M) : Wm p l e R s m args below meth c nL D cA b0 cells slots Q pc lv (aI z :: aO k i :: st) ad cn M := by
  intro H locs ls hw hS hl
  have k9 := kk H locs ls hw hS hl
  rw [← hd.2] at k9
  obtain ⟨q0, hq⟩ := wsM_get (hb := hw.2.2.2.1) (cA := cA) (ad := ad) (M := M) hin
  have ix := ix_in hz hk.1
  refine va_dald C.1 C.2.1 C.2.2.2.2.2.2.2.1.1 (HW_P hw) q0 4 (cM_of hq (hk.2 cA ad i _ _ _ _)) rfl ix.1 hd.1 ?_
  rw [ix.2]
  exact k9
theorem w_iast (C : Cx l p s m args meth c cc own nL D cA b0 tab) {k i n : Nat} {z : Int} {v : Int} (hd : DI cc pc .iastore 1 pc') (hin : inD cn k i) (hk : IA k n) (hz : 0 ≤ z ∧ z < n) (kk : Wm p l e R s m args below meth c nL D cA b0 cells slots Q pc' lv st ad cn (uI M k i z.toNat v)) : Wm p l e R s m args below meth c nL D cA b0 cells slots Q pc lv (aI v :: aI z :: aO k i :: st) ad cn M := by
  intro H locs ls hw hS hl
  obtain ⟨q0, hq⟩ := wsM_get (hb := hw.2.2.2.1) (cA := cA) (ad := ad) (M := M) hin
  have ix := ix_in hz hk.1
  refine va_iast C.1 C.2.1 C.2.2.2.2.2.2.2.1.1 (HW_P hw) (HW_D hw) hS q0 0 (cM_of hq (hk.2 cA ad i _ _ _ _)) rfl ix.1 hd.1 (fun H1 locs1 hP1 hD1 hS1 => ?_)
  have k9 := kk H1 locs1 ls (HW_put hw hin hq (by
    rw [uI_on, hk.2]
    rw [ix.2, upd_map] at hP1; exact hP1) (uI_off cA ad M z.toNat v) hw.2.2.2.2.1) hS1 hl
  rw [← hd.2] at k9
  exact k9
theorem w_zast (C : Cx l p s m args meth c cc own nL D cA b0 tab) {k i n : Nat} {z : Int} {v : Int} (hd : DI cc pc .bastore 1 pc') (hin : inD cn k i) (hk : ZA k n) (hz : 0 ≤ z ∧ z < n) (hv : v = 0 ∨ v = 1) (kk : Wm p l e R s m args below meth c nL D cA b0 cells slots Q pc' lv st ad cn (uI M k i z.toNat v)) : Wm p l e R s m args below meth c nL D cA b0 cells slots Q pc lv (aI v :: aI z :: aO k i :: st) ad cn M := by
  intro H locs ls hw hS hl
  obtain ⟨q0, hq⟩ := wsM_get (hb := hw.2.2.2.1) (cA := cA) (ad := ad) (M := M) hin
  have ix := ix_in hz hk.1
  refine va_zast C.1 C.2.1 C.2.2.2.2.2.2.2.1.1 (HW_P hw) (HW_D hw) hS q0 1 (cM_of hq (hk.2 cA ad i _ _ _ _)) rfl ix.1 hd.1 (fun H1 locs1 hP1 hD1 hS1 => ?_)
  have k9 := kk H1 locs1 ls (HW_put hw hin hq (by
    rw [uI_on, hk.2]
    rw [ix.2, nar_z hv, upd_map] at hP1; exact hP1) (uI_off cA ad M z.toNat v) hw.2.2.2.2.1) hS1 hl
  rw [← hd.2] at k9
  exact k9
theorem w_cast (C : Cx l p s m args meth c cc own nL D cA b0 tab) {k i n : Nat} {z : Int} {v : Int} (hd : DI cc pc .castore 1 pc') (hin : inD cn k i) (hk : CA k n) (hz : 0 ≤ z ∧ z < n) (hv : 0 ≤ v ∧ v ≤ 65535) (kk : Wm p l e R s m args below meth c nL D cA b0 cells slots Q pc' lv st ad cn (uI M k i z.toNat v)) : Wm p l e R s m args below meth c nL D cA b0 cells slots Q pc lv (aI v :: aI z :: aO k i :: st) ad cn M := by
  intro H locs ls hw hS hl
  obtain ⟨q0, hq⟩ := wsM_get (hb := hw.2.2.2.1) (cA := cA) (ad := ad) (M := M) hin
  have ix := ix_in hz hk.1
  refine va_cast C.1 C.2.1 C.2.2.2.2.2.2.2.1.1 (HW_P hw) (HW_D hw) hS q0 2 (cM_of hq (hk.2 cA ad i _ _ _ _)) rfl ix.1 hd.1 (fun H1 locs1 hP1 hD1 hS1 => ?_)
  have k9 := kk H1 locs1 ls (HW_put hw hin hq (by
    rw [uI_on, hk.2]
    rw [ix.2, nar_c hv, upd_map] at hP1; exact hP1) (uI_off cA ad M z.toNat v) hw.2.2.2.2.1) hS1 hl
  rw [← hd.2] at k9
  exact k9
theorem w_last (C : Cx l p s m args meth c cc own nL D cA b0 tab) {k i n : Nat} {z : Int} {v : Int} (hd : DI cc pc .lastore 1 pc') (hin : inD cn k i) (hk : LA k n) (hz : 0 ≤ z ∧ z < n) (kk : Wm p l e R s m args below meth c nL D cA b0 cells slots Q pc' lv st ad cn (uL M k i z.toNat v)) : Wm p l e R s m args below meth c nL D cA b0 cells slots Q pc lv (aL v :: aI z :: aO k i :: st) ad cn M := by
  intro H locs ls hw hS hl
  obtain ⟨q0, hq⟩ := wsM_get (hb := hw.2.2.2.1) (cA := cA) (ad := ad) (M := M) hin
  have ix := ix_in hz hk.1
  refine va_last C.1 C.2.1 C.2.2.2.2.2.2.2.1.1 (HW_P hw) (HW_D hw) hS q0 3 (cM_of hq (hk.2 cA ad i _ _ _ _)) rfl ix.1 hd.1 (fun H1 locs1 hP1 hD1 hS1 => ?_)
  have k9 := kk H1 locs1 ls (HW_put hw hin hq (by
    rw [uL_on, hk.2]
    rw [ix.2, updL_map] at hP1; exact hP1) (uL_off cA ad M z.toNat v) hw.2.2.2.2.1) hS1 hl
  rw [← hd.2] at k9
  exact k9
theorem w_dast (C : Cx l p s m args meth c cc own nL D cA b0 tab) {k i n : Nat} {z : Int} {v : UInt64} (hd : DI cc pc .dastore 1 pc') (hin : inD cn k i) (hk : DA k n) (hz : 0 ≤ z ∧ z < n) (kk : Wm p l e R s m args below meth c nL D cA b0 cells slots Q pc' lv st ad cn (uD M k i z.toNat v)) : Wm p l e R s m args below meth c nL D cA b0 cells slots Q pc lv (aD v :: aI z :: aO k i :: st) ad cn M := by
  intro H locs ls hw hS hl
  obtain ⟨q0, hq⟩ := wsM_get (hb := hw.2.2.2.1) (cA := cA) (ad := ad) (M := M) hin
  have ix := ix_in hz hk.1
  refine va_dast C.1 C.2.1 C.2.2.2.2.2.2.2.1.1 (HW_P hw) (HW_D hw) hS q0 4 (cM_of hq (hk.2 cA ad i _ _ _ _)) rfl ix.1 hd.1 (fun H1 locs1 hP1 hD1 hS1 => ?_)
  have k9 := kk H1 locs1 ls (HW_put hw hin hq (by
    rw [uD_on, hk.2]
    rw [ix.2] at hP1; exact hP1) (uD_off cA ad M z.toNat v) hw.2.2.2.2.1) hS1 hl
  rw [← hd.2] at k9
  exact k9
theorem w_aald (C : Cx l p s m args meth c cc own nL D cA b0 tab) {k i n q t : Nat} {nm : String} {z : Int} (hd : DI cc pc .aaload 1 pc') (hin : inD cn k i) (hk : RA k n q t) (hq9 : (tysT cA)[q]? = some (cA q, .object nm)) (hz : 0 ≤ z ∧ z < n) (kk : Wm p l e R s m args below meth c nL D cA b0 cells slots Q pc' lv (aR ((M.2.1 k i z.toNat).map fun j => (t, j)) :: st) ad cn M) : Wm p l e R s m args below meth c nL D cA b0 cells slots Q pc lv (aI z :: aO k i :: st) ad cn M := by
  intro H locs ls hw hS hl
  have k9 := kk H locs ls hw hS hl
  rw [← hd.2] at k9
  obtain ⟨q0, hq⟩ := wsM_get (hb := hw.2.2.2.1) (cA := cA) (ad := ad) (M := M) hin
  have ix := ix_in hz hk.1
  refine va_aldq C.1 C.2.1 C.2.2.2.2.2.2.2.1.1 (HW_P hw) q0 q (cM_of hq (hk.2 cA ad i _ _ _ _)) hq9 ix.1 hd.1 ?_
  rw [ix.2]
  have e9 : va_rf ((M.2.1 k i z.toNat).map (ad t)) = tv ad (aR ((M.2.1 k i z.toNat).map fun j => (t, j))) := by cases M.2.1 k i z.toNat <;> rfl
  show W p l e R s m args below meth c H locs cells slots Q (F0 m (pc + 1) ls (va_rf ((M.2.1 k i z.toNat).map (ad t)) :: st.map (tv ad)))
  rw [e9]
  exact k9
theorem w_aast (C : Cx l p s m args meth c cc own nL D cA b0 tab) {k i n q t v ci : Nat} {r : vw_C} {fs : List Value} {z : Int} (hd : DI cc pc .aastore 1 pc') (hin : inD cn k i) (hk : RA k n q t) (hq9 : (tysT cA)[q]? = some (cA q, .object r.1)) (hc : clT[ci]? = some r) (htg : ∀ s, tgK k s = some t) (hinv : inD cn t v) (hcv : cM cA ad M t v = .inr (ci, fs)) (hz : 0 ≤ z ∧ z < n) (kk : Wm p l e R s m args below meth c nL D cA b0 cells slots Q pc' lv st ad cn (uR M k i z.toNat (some v))) : Wm p l e R s m args below meth c nL D cA b0 cells slots Q pc lv (aO t v :: aI z :: aO k i :: st) ad cn M := by
  intro H locs ls hw hS hl
  obtain ⟨q0, hq⟩ := wsM_get (hb := hw.2.2.2.1) (cA := cA) (ad := ad) (M := M) hin
  obtain ⟨q1, hq1⟩ := wsM_get (hb := hw.2.2.2.1) (cA := cA) (ad := ad) (M := M) hinv
  have ix := ix_in hz hk.1
  refine va_astq C.1 C.2.1 C.2.2.2.2.2.2.2.1.1 (HW_P hw) (HW_D hw) hS q0 q q1 ci (cM_of hq (hk.2 cA ad i _ _ _ _)) hq9 (cM_of hq1 hcv) hc ix.1 hd.1 (fun H1 locs1 hP1 hD1 hS1 => ?_)
  have k9 := kk H1 locs1 ls (HW_put hw hin hq (by
    rw [uR_on, hk.2]
    rw [ix.2, updR_map] at hP1; exact hP1) (uR_off cA ad M z.toNat (some v)) (hw.2.2.2.2.1.uR (fun t' ht => by rw [htg] at ht; rw [← Option.some.inj ht]; exact hinv))) hS1 hl
  rw [← hd.2] at k9
  exact k9
/-- a field read -/
theorem w_getG (C : Cx l p s m args meth c cc own nL D cA b0 tab) {k i ci N index sl : Nat} {ref Cn : String} {T : u_T} {fs : List Value} {v : AV} (hd : DI cc pc (.getfield index) 3 pc') (hin : inD cn k i) (he : cM cA ad M k i = .inr (ci, fs)) (hc : clT[ci]? = some (Cn, T, N)) (hsl : sl < N) (hws : ∀ w ∈ u_ws Cn T N, w ∈ GW) (hlk : Cond.fieldLink own index ref (T sl).2.1 (T sl).2.2.1 ∈ GW) (hrf : (T sl).1 = ref)
    (hv : fs[sl]? = some (tv ad v)) (kk : Wm p l e R s m args below meth c nL D cA b0 cells slots Q pc' lv (v :: st) ad cn M) : Wm p l e R s m args below meth c nL D cA b0 cells slots Q pc lv (aO k i :: st) ad cn M := by
  intro H locs ls hw hS hl
  have k9 := kk H locs ls hw hS hl
  rw [← hd.2] at k9
  obtain ⟨q0, hq⟩ := wsM_get (hb := hw.2.2.2.1) (cA := cA) (ad := ad) (M := M) hin
  exact va_get C.1 C.2.1 C.2.2.2.2.1 hws C.2.2.2.1 C.2.2.2.2.2.2.2.1.1 (HW_P hw) q0 (cM_of hq he) hc sl hsl (C.2.2.2.2.1 _ hlk) (fun x h => by rw [← hrf]; exact h) hv hd.1 k9
/-- a field written -/
theorem w_putG (C : Cx l p s m args meth c cc own nL D cA b0 tab) {k i ci N index sl : Nat} {ref Cn : String} {T : u_T} {fs : List Value} {v : AV} {M' : Mem} {ty : FieldType} (ty0 : Nat → FieldType) (hd : DI cc pc (.putfield index) 3 pc') (hin : inD cn k i) (he : cM cA ad M k i = .inr (ci, fs)) (hc : clT[ci]? = some (Cn, T, N)) (hsl : sl < N) (hfl : sl < fs.length) (hws : ∀ w ∈ u_ws Cn T N, w ∈ GW) (hlk : Cond.fieldLink own index ref (T sl).2.1 (T sl).2.2.1 ∈ GW) (hrf : (T sl).1 = ref)
    (hty : ∀ k, k < N → parseFieldDescriptor (T k).2.2.1 = some (ty0 k)) (hnm : ∀ a, a < N → ∀ b, b < N → a ≠ b → (T a).2.1 ≠ (T b).2.1) (hfin : (T sl).2.2.2 = false) (hds : ty0 sl = ty) (hn : narrow ty (tv ad v) = tv ad v) (hf : fits ty (tv ad v) = true)
    (h1 : cM cA ad M' k i = .inr (ci, fs.set sl (tv ad v))) (hoff : ∀ k' i', ¬ (k' = k ∧ i' = i) → cM cA ad M' k' i' = cM cA ad M k' i') (hcl : ClM cn M → ClM cn M') (kk : Wm p l e R s m args below meth c nL D cA b0 cells slots Q pc' lv st ad cn M') : Wm p l e R s m args below meth c nL D cA b0 cells slots Q pc lv (v :: aO k i :: st) ad cn M := by
  intro H locs ls hw hS hl
  obtain ⟨q0, hq⟩ := wsM_get (hb := hw.2.2.2.1) (cA := cA) (ad := ad) (M := M) hin
  refine va_put C.1 C.2.1 C.2.2.2.2.1 hws ty0 hty hnm C.2.2.2.1 C.2.2.2.2.2.2.2.1.1 (HW_P hw) (HW_D hw) hS q0 (cM_of hq he) hc sl hsl (C.2.2.2.2.1 _ hlk) (fun x h => by rw [← hrf]; exact h) hfin (by rw [hty sl hsl, hds]) hn hf hfl hd.1 (fun H1 locs1 hP1 hD1 hS1 => ?_)
  have k9 := kk H1 locs1 ls (HW_put hw hin hq (by rw [h1]; exact hP1) hoff (hcl hw.2.2.2.2.1)) hS1 hl
  rw [← hd.2] at k9
  exact k9
/-- the end with a number (or a truth value, a character) -/
theorem w_iret (C : Cx l p s m args meth c cc own nL D cA b0 tab) {z : Int} {ty : FieldType} {P : PT} {X : PX} {mc ms : Nat} (hr : meth.sig.returnType = some ty) (hd : DI cc pc .ireturn 1 pc') (hn : narrow ty (.int (Int32.ofInt z)) = .int (Int32.ofInt z)) (hp : P (some (aI z)) M) (hc : cells ≤ mc) (hs : slots ≤ ms) : Wm p l e R s m args below meth c nL D cA b0 cells slots (vx_MQ below (mQ D cA b0 ad cn P) (mX D cA b0 ad cn X) args s mc ms b0) pc lv [aI z] ad cn M := fun H locs ls hw hS hl =>
  W.widen hc hs (vx_ret (W.zret C.1 C.2.1 hr hn (fun t ht hW => ⟨some (aI z), M, rfl, hp, by rw [ht]; exact hw, hS.F ht⟩) hS.2.2 hd.1 C.2.2.2.2.2.1))
theorem w_lret (C : Cx l p s m args meth c cc own nL D cA b0 tab) {z : Int} {P : PT} {X : PX} {mc ms : Nat} (hr : meth.sig.returnType = some .long) (hd : DI cc pc .lreturn 1 pc') (hp : P (some (aL z)) M) (hc : cells ≤ mc) (hs : slots ≤ ms) : Wm p l e R s m args below meth c nL D cA b0 cells slots (vx_MQ below (mQ D cA b0 ad cn P) (mX D cA b0 ad cn X) args s mc ms b0) pc lv [aL z] ad cn M := fun H locs ls hw hS hl =>
  W.widen hc hs (vx_ret (W.lret C.1 C.2.1 hr (fun t ht hW => ⟨some (aL z), M, rfl, hp, by rw [ht]; exact hw, hS.F ht⟩) hS.2.2 hd.1 C.2.2.2.2.2.1))
theorem w_fret (C : Cx l p s m args meth c cc own nL D cA b0 tab) {z : UInt32} {P : PT} {X : PX} {mc ms : Nat} (hr : meth.sig.returnType = some .float) (hd : DI cc pc .freturn 1 pc') (hp : P (some (aF z)) M) (hc : cells ≤ mc) (hs : slots ≤ ms) : Wm p l e R s m args below meth c nL D cA b0 cells slots (vx_MQ below (mQ D cA b0 ad cn P) (mX D cA b0 ad cn X) args s mc ms b0) pc lv [aF z] ad cn M := fun H locs ls hw hS hl =>
  W.widen hc hs (vx_ret (W.fret C.1 C.2.1 hr (fun t ht hW => ⟨some (aF z), M, rfl, hp, by rw [ht]; exact hw, hS.F ht⟩) hS.2.2 hd.1 C.2.2.2.2.2.1))
theorem w_dret (C : Cx l p s m args meth c cc own nL D cA b0 tab) {z : UInt64} {P : PT} {X : PX} {mc ms : Nat} (hr : meth.sig.returnType = some .double) (hd : DI cc pc .dreturn 1 pc') (hp : P (some (aD z)) M) (hc : cells ≤ mc) (hs : slots ≤ ms) : Wm p l e R s m args below meth c nL D cA b0 cells slots (vx_MQ below (mQ D cA b0 ad cn P) (mX D cA b0 ad cn X) args s mc ms b0) pc lv [aD z] ad cn M := fun H locs ls hw hS hl =>
  W.widen hc hs (vx_ret (W.dret C.1 C.2.1 hr (fun t ht hW => ⟨some (aD z), M, rfl, hp, by rw [ht]; exact hw, hS.F ht⟩) hS.2.2 hd.1 C.2.2.2.2.2.1))
theorem w_aret (C : Cx l p s m args meth c cc own nL D cA b0 tab) {r : Option (Nat × Nat)} {ty : FieldType} {P : PT} {X : PX} {mc ms : Nat} (hr : meth.sig.returnType = some ty) (hty : (∃ n, ty = .object n) ∨ ∃ t, ty = .array t) (hd : DI cc pc .areturn 1 pc') (hp : P (some (aR r)) M) (hc : cells ≤ mc) (hs : slots ≤ ms) : Wm p l e R s m args below meth c nL D cA b0 cells slots (vx_MQ below (mQ D cA b0 ad cn P) (mX D cA b0 ad cn X) args s mc ms b0) pc lv [aR r] ad cn M := fun H locs ls hw hS hl =>
  W.widen hc hs (vx_ret (W.aret C.1 C.2.1 hr hty (by cases r with | none => exact Or.inl rfl | some q => exact Or.inr ⟨_, rfl⟩) (fun t ht hW => ⟨some (aR r), M, rfl, hp, by rw [ht]; exact hw, hS.F ht⟩) hS.2.2 hd.1 C.2.2.2.2.2.1))
theorem w_vret (C : Cx l p s m args meth c cc own nL D cA b0 tab) {P : PT} {X : PX} {mc ms : Nat} (hr : meth.sig.returnType = none) (hd : DI cc pc .return_ 1 pc') (hp : P none M) (hc : cells ≤ mc) (hs : slots ≤ ms) : Wm p l e R s m args below meth c nL D cA b0 cells slots (vx_MQ below (mQ D cA b0 ad cn P) (mX D cA b0 ad cn X) args s mc ms b0) pc lv [] ad cn M := fun H locs ls hw hS hl =>
  W.widen hc hs (vx_ret (W.vret C.1 C.2.1 hr (fun t ht hW => ⟨none, M, rfl, hp, by rw [ht]; exact hw, hS.F ht⟩) hS.2.2 hd.1 C.2.2.2.2.2.1))
theorem Wm.lsub {lv' : Lv} (h : lsub lv lv') (kk : Wm p l e R s m args below meth c nL D cA b0 cells slots Q pc lv' st ad cn M) : Wm p l e R s m args below meth c nL D cA b0 cells slots Q pc lv st ad cn M := fun H locs ls hw hS hl => kk H locs ls hw hS (lsub_has hl h)
theorem Wm.widen {c2 s2 : Nat} (h1 : cells ≤ c2) (h2 : slots ≤ s2) (kk : Wm p l e R s m args below meth c nL D cA b0 c2 s2 Q pc lv st ad cn M) : Wm p l e R s m args below meth c nL D cA b0 cells slots Q pc lv st ad cn M := fun H locs ls hw hS hl => W.widen h1 h2 (kk H locs ls hw hS hl)
end Rows
