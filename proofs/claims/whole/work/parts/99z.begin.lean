/-! the start of the law: the room, the model, the two arrays -/
def sd97 (k : Nat) : Bool := sdM k || Nat.beq k 97
theorem sd97_iff {k : Nat} : sd97 k = true ↔ (40 ≤ k ∧ k ≤ 70) ∨ k = 97 := by
  unfold sd97
  rw [Bool.or_eq_true, sdM_iff]
  exact ⟨fun h => h.imp (fun h => h) Nat.eq_of_beq_eq_true, fun h => h.imp (fun h => h) (fun h => by rw [h]; rfl)⟩
section Rows
variable {p : Program} {l : Launch} {e : Env} {R : Room} {s : State} {m : MethodId} {args : Array Value} {below : List Frame} {meth : Method} {c : Code} {nL : Nat} {D : va_G} {cA : Nat → ClassId} {b0 : Nat → Prop} {cells slots : Nat} {Q : State → Prop} {lv : Lv} {st : List AV} {ad : Ads} {cn : Nat → Nat} {M : Mem} {cc : ByteArray} {own : String} {tab : List ExceptionTableEntry} {pc pc' : Nat}
/-- a constructor that sees one side -/
theorem w_ctorSub (sd : Nat → Bool) (C : Cx l p s m args meth c cc own nL D cA b0 tab) {P : PN} {mc ms : Nat} {y : MethodName} {bytes : ByteArray} {maxL n d idx r k i i0 : Nat} {ks : List Nat} {as stk : List AV} {cnC : Nat → Nat} (hd : DI cc pc (.invokespecial idx) 3 pc') (hA : Apart sd cn) (hcn : cnS sd cn = cnC) (hcon : ∀ b1, ConN l b1 y bytes maxL none d mc ms (aO r i0 :: as) ad cnC M P (fun _ _ => False)) (hm : MOK y bytes maxL none n) (hv : y.name = "<init>" ∧ Cond.instanceMethod y ∈ GW) (hk : Cond.methodLink own idx y ∈ GW)
    (hst : stk = as.reverse ++ aO r i0 :: aO r i0 :: st) (hn : as.length = n) (hroom : d + 1 ≤ R.frames ∧ 8 + (maxL + 11) + 40 * d ≤ R.locals ∧ cells + mc ≤ R.cells ∧ slots + ms ≤ R.slots) (hwt : (st.map fun v => if cat2 v then 2 else 1).sum ≤ 7) (hnk : nkl ks lv st = true)
    (hP : ∀ r' ad' cn' M', P r' ad' cn' M' → r' = none ∧ adJ sd ad' ad k i = ad r i0 ∧ (∀ k' i', k' ∉ ks → ad' k' i' = ad k' i') ∧ ∀ k, sd k = false → cn' k = 0)
    (kk : ∀ (ad' : Ads) (cn' : Nat → Nat) (M' : Mem), P none ad' cn' M' → Wm p l e R s m args below meth c nL D cA b0 (cells + mc) (slots + ms) Q pc' lv (aO k i :: st) (adJ sd ad' ad) (cnJ sd cn' cn) (mJ sd M' M)) : Wm p l e R s m args below meth c nL D cA b0 cells slots Q pc lv stk ad cn M := by
  subst hcn
  intro H locs ls hw hS hl
  have EVv := C.2.2.2.2.2.2.2.1
  have hb : ∀ q, H.size ≤ q → b0 q := fun q h => EVv.2.2.2.1 q (Nat.le_trans hS.1 h)
  have hN : ∀ sig, parseMethodDescriptor y.desc = some sig → n = sig.parameters.length := fun sig h => by
    have h2 := hm.2.2.2
    rw [h] at h2
    exact (Option.some.inj h2).symm
  have hrun := vx_runI (e := e) (below := below) (meth := meth) (n := n) (b := ad r i0) (As := as.map (tv ad)) (rest := (aO r i0 :: st).map (tv ad)) (H := H) (locs := locs) (cells := cells) (slots := slots) (R := R) (g := F0 m pc ls (stk.map (tv ad))) ⟨C.1, C.2.1, C.2.2.1, C.2.2.2.1, C.2.2.2.2.1⟩ (hcon (bS sd ad cn H.size) D cA) ⟨⟨rfl, rfl, hroom.1, hroom.2.1, ws_good hm.2.1 C.2.2.2.2.1, List.mem_cons_self, C.2.2.2.2.1 _ hm.2.1, C.2.2.2.2.1 _ hm.1, hm.2.2.1, hN, C.2.2.2.2.1 _ hk⟩, hv.1, C.2.2.2.2.1 _ hv.2⟩ ⟨con_blind, fun U hU hW => ⟨rfl, by rw [hU]; exact hw.part sd hA, (EV.warm hW (by rw [hU]; exact hS) EVv).narrow (bS_in hw hb) (fun q h => Or.inr (by rw [← hU]; exact h))⟩⟩ rfl (by rw [List.length_map]; exact hn) hl.1 (by rw [hst]; simp [List.map_append, List.map_reverse]; rfl) (lv_room (by rw [stk_cat]; simp only [List.map_cons, List.sum_cons]; have : cat2 (aO r i0) = false := rfl; rw [this]; simp; omega)) hd.1 ⟨hroom.2.2.1, hroom.2.2.2⟩
  refine my_callSub (P := P) (run_monoN hrun (fun st o t h => h) mX_no) hw hS hb (fun r' ad' cn' M' H1 locs1 hp hw1 hfr hS1 => ?_)
  obtain ⟨rfl, g1, g2, g3⟩ := hP r' ad' cn' M' hp
  have hj := hw.join sd hA hw1 g3 hfr hb
  have hag : ∀ k' i', k' ∉ ks → adJ sd ad' ad k' i' = ad k' i' := fun k' i' h => by
    unfold adJ
    split
    · exact g2 k' i' h
    · rfl
  obtain ⟨a1, a2⟩ := nkl_ag hnk hag
  have k9 := kk ad' cn' M' hp H1 locs1 ls hj hS1 (by rw [a1]; exact hl)
  rw [← hd.2, List.map_cons, a2] at k9
  have e1 : tv (adJ sd ad' ad) (aO k i) = tv ad (aO r i0) := by
    show Value.ref _ = Value.ref _
    rw [g1]
  rw [e1] at k9
  exact k9
end Rows
theorem RepRoom.lo {S : Sg} {P : List Pc} {nx : Nat} {M M' : Mem} (h : RepRoom S P nx M) (hP : P.length ≤ 40) (hF : Fr (fun k _ => 33 ≤ k) M M') : RepRoom S P nx M' := by
  have nK : ∀ k, k < 33 → ¬ 33 ≤ k := fun k h => Nat.not_le.mpr h
  obtain ⟨r1, r2, r3, r4, r5, ff, t1, t2⟩ := h
  exact ⟨r1.fr hF (nK _ (by omega)) (nK _ (by omega)) (nK _ (by omega)), r2.fr hF (fun i => ⟨nK _ (by omega), nK _ (by omega), nK _ (by omega), nK _ (by omega), nK _ (by omega)⟩), RepMk.fr hP hF ⟨nK _ (by omega), nK _ (by omega), nK _ (by omega), nK _ (by omega), nK _ (by omega), nK _ (by omega)⟩ (fun _ _ => nK _ (by omega)) r3, r4.fr hF (fun i => ⟨nK _ (by omega), nK _ (by omega)⟩), r5.fr hF (nK _ (by omega)) (nK _ (by omega)) (nK _ (by omega)), ff, fun i hi => by rw [(hF 12 1 (nK _ (by omega))).2.1]; exact t1 i hi, t2⟩
/-- the room's world behind its constructor, the model's object made -/
def cnR (k : Nat) : Nat := if k = 0 ∨ k = 1 ∨ k = 10 ∨ k = 11 ∨ k = 20 ∨ k = 21 ∨ k = 27 ∨ k = 28 ∨ k = 29 then 1 else if k = 2 ∨ k = 12 ∨ k = 22 ∨ k = 23 ∨ k = 24 ∨ k = 25 ∨ k = 26 then 2 else if k = 3 then 80 else if k = 96 then 0 else up1 (fun _ => 0) 96 1 k
def cnR7 : Nat → Nat := up1 cnR 97 1
theorem cnR_hi {k : Nat} (h : 30 ≤ k) : cnR k = 0 := by
  unfold cnR up1
  rw [if_neg (by omega), if_neg (by omega), if_neg (by omega)]
  split <;> rfl
theorem cnR7_97 {k : Nat} (h : 30 ≤ k) : cnR7 k = if k = 97 then 1 else 0 := by
  unfold cnR7 up1
  rw [cnR_hi h]
theorem cnS_97 : cnS sd97 cnR7 = cn97 := by
  funext k
  unfold cnS cn97
  by_cases h : sd97 k = true
  · rw [if_pos h, cnR7_97 (by rcases sd97_iff.mp h with g | g <;> omega)]
  · rw [if_neg h, if_neg (fun g => h (sd97_iff.mpr (Or.inr g)))]
theorem cnR7_in {k i : Nat} (h : inD cnR7 k i) : k < 30 ∨ k = 97 := by
  by_cases g : k < 30
  · exact Or.inl g
  · refine Or.inr ?_
    unfold inD at h
    rw [cnR7_97 (by omega)] at h
    by_cases e : k = 97
    · exact e
    · rw [if_neg e] at h
      exact absurd h (Nat.not_lt_zero _)
theorem tgK_97 {s t : Nat} (h : tgK 97 s = some t) : 40 ≤ t ∧ t ≤ 70 := by
  unfold tgK at h
  split at h <;> first | (cases h; done) | (exfalso; omega) | (cases h; omega) | (split at h <;> first | (cases h; done) | (cases h; omega) | (exfalso; omega))
theorem sd97_lo {k : Nat} (h : k < 90) : sd97 k = sdM k := by
  unfold sd97
  have e : Nat.beq k 97 = false := by
    cases q : Nat.beq k 97 with
    | false => rfl
    | true => have := Nat.eq_of_beq_eq_true q; omega
  rw [e, Bool.or_false]
theorem ap97 : Apart sd97 cnR7 := by
  refine ⟨fun k i h q hq => ?_, fun k i s t h ht => ?_⟩
  · rcases cnR7_in h with g | rfl
    · have e := fT_side hq
      have g2 : sdM k = false := by
        cases q9 : sdM k with
        | false => rfl
        | true => have := sdM_iff.mp q9; omega
      rw [g2] at e
      have g3 : q.1 ≠ 97 := fun z => by
        have hz : (fT k i).all (fun q => Nat.ble q.1 90) = true := by
          unfold fT
          split <;> rfl
        have := Nat.le_of_ble_eq_true (List.all_eq_true.mp hz q hq)
        omega
      unfold sd97
      rw [e, g2]
      have e1 : Nat.beq q.1 97 = false := by
        cases q8 : Nat.beq q.1 97 with
        | false => rfl
        | true => exact absurd (Nat.eq_of_beq_eq_true q8) g3
      have e2 : Nat.beq k 97 = false := by
        cases q8 : Nat.beq k 97 with
        | false => rfl
        | true => have := Nat.eq_of_beq_eq_true q8; omega
      rw [e1, e2]
    · cases hq
  · rcases cnR7_in h with g | rfl
    · have e := tgK_side (by omega) ht
      have g2 : sdM k = false := by
        cases q9 : sdM k with
        | false => rfl
        | true => have := sdM_iff.mp q9; omega
      have ht9 : t < 90 := by
        unfold tgK at ht
        split at ht <;> first | (cases ht; done) | (exfalso; omega) | (cases ht; omega) | (split at ht <;> first | (cases ht; done) | (cases ht; omega) | (exfalso; omega))
      rw [sd97_lo ht9, sd97_lo (by omega), e]
    · have g := tgK_97 ht
      rw [sd97_iff.mpr (Or.inl g)]
      rfl
theorem cnB_start : up1 (up1 (cnJ sd97 cntM cnR7) 80 1) 81 1 = cnB 0 0 := by
  have h1 : ∀ k, k < 100 → up1 (up1 (cnJ sd97 cntM cnR7) 80 1) 81 1 k = cnB 0 0 k := by decide +kernel
  funext k
  by_cases h : k < 100
  · exact h1 k h
  · unfold up1
    rw [if_neg (by omega), if_neg (by omega)]
    unfold cnJ cnB
    have g1 : ¬ sd97 k = true := fun q => by rcases sd97_iff.mp q with g | g <;> omega
    have g2 : ¬ sdM k = true := fun q => by have := sdM_iff.mp q; omega
    rw [if_neg g1, if_neg g2, cnR7_97 (by omega), if_neg (by omega), cnt_hi (by omega)]
section Cs
variable {p : Program} {l : Launch} {e : Env} {R : Room} {s : State} {m : MethodId} {args : Array Value} {below : List Frame} {meth : Method} {c : Code} {D : va_G} {cA : Nat → ClassId} {b0 : Nat → Prop} {Q : State → Prop} {ad : Ads} {M : Mem} {tab : List ExceptionTableEntry}
theorem lw_begin (hl : l.stackTraces = false) (C : Cx l p s m args meth c cL_law RL 9 D cA b0 tab) {b : Nat} (had : ad 99 0 = b) (hroom : 40 ≤ R.frames ∧ 4000 ≤ R.locals ∧ 1000 ≤ R.cells ∧ 10000 ≤ R.slots)
    (kk : ∀ (c2 s2 : Nat) (ad2 : Ads) (M2 : Mem), c2 ≤ 200 → s2 ≤ 6000 → ad2 99 0 = b → RepRoom S0 [] 0 M2 → RepMo S0 [] 0 M2 → Wm p l e R s m args below meth c 9 D cA b0 c2 s2 Q 28 (lvL 0) [] ad2 (cnB 0 0) M2) :
    Wm p l e R s m args below meth c 9 D cA b0 0 0 Q 0 [(0, aO 99 0)] [] ad (fun _ => 0) M := by
  refine w_new_X6 (i := 0) C rfl dL_law_0 lc_L_8 rfl ⟨by omega, by omega⟩ ?_
  intro ad1 hag1
  refine w_dup C dL_law_3 rfl ?_
  refine w_ctor (ks := [0, 1, 2, 3, 10, 11, 12, 20, 21, 22, 23, 24, 25, 26, 27, 28, 29, 90, 91]) C dL_law_4 (c_X6_init hl rfl (fun k hk => by unfold up1; rw [if_neg (by omega)]) (zM_on M 96 0).1 (zM_on M 96 0).2.2.1) mX6_init vi_X6_init li_L_130 rfl rfl ⟨by omega, by omega, by omega, by omega⟩ (Nat.le_of_ble_eq_true rfl) rfl (fun _ _ _ _ h => ⟨h.1, h.2.1, h.2.2.1⟩) (fun ad2 cn2 M2 h2 => ?_)
  obtain ⟨-, -, hag2, rfl, -, hR2⟩ := h2
  refine w_astore_n C dL_law_7 (by decide) ?_
  show Wm p l e R s m args below meth c 9 D cA b0 _ _ Q 8 _ _ _ cnR _
  refine w_new_X7 (i := 0) C rfl dL_law_8 lc_L_131 rfl ⟨by omega, by omega⟩ ?_
  intro ad3 hag3
  show Wm p l e R s m args below meth c 9 D cA b0 _ _ Q 11 _ _ _ cnR7 _
  refine w_dup C dL_law_11 rfl ?_
  refine w_ctorSub sd97 (k := 40) (i := 0) (ks := [40, 41, 42, 43, 44, 45, 46, 47, 48, 49, 50, 51, 52, 53, 54, 55, 56, 57, 58, 59, 60, 61, 62, 63, 64, 65, 66, 67, 68, 69, 70]) C dL_law_12 ap97 cnS_97 (fun b1 => c_X7_init hl rfl (zM_on M2 97 0).1 (zM_on M2 97 0).2.2.1) mX7_init vi_X7_init li_L_133 rfl rfl ⟨by omega, by omega, by omega, by omega⟩ (Nat.le_of_ble_eq_true rfl) rfl (fun r' ad' cn' M' h => ⟨h.1, h.2.1, fun k' i' hk => h.2.2.1 k' i' (by simp at hk; omega), fun k hk => ?_⟩) (fun ad4 cn4 M4 h4 => ?_)
  · rw [h.2.2.2.1]
    exact cntM_out (fun g => by rw [sd97_iff.mpr (Or.inl g)] at hk; cases hk)
  obtain ⟨-, -, hag4, rfl, hM4⟩ := h4
  refine w_astore_n C dL_law_15 (by decide) ?_
  refine w_iconst C dL_law_16 ?_
  refine w_newJ (k := 80) (N := 1) (i := 0) C rfl dL_law_17 mA_long LA_80 (by decide) rfl rfl (by decide) ⟨by omega, by omega⟩ ?_
  intro ad5 hag5
  refine w_astore_n C dL_law_19 (by decide) ?_
  refine w_iconst C dL_law_20 ?_
  refine w_newD (k := 81) (N := 1) (i := 0) C rfl dL_law_21 mA_double DA_81 (by decide) rfl rfl (by decide) ⟨by omega, by omega⟩ ?_
  intro ad6 hag6
  refine w_astore C dL_law_23 (by decide) ?_
  refine w_iconst C dL_law_25 ?_
  refine w_istore C dL_law_26 (by decide) ?_
  have e6 : ad6 99 0 = b := by
    rw [hag6 99 0 (by decide), hag5 99 0 (by decide)]
    have e4 : adJ sd97 ad4 ad3 99 0 = ad3 99 0 := by
      unfold adJ
      split
      · exact hag4 99 0 (Or.inr (by decide))
      · rfl
    rw [e4, hag3 99 0 (by decide), hag2 99 0 (by decide), hag1 99 0 (by decide)]
    exact had
  have nz : ∀ {M9 : Mem} {k i k0 i0 : Nat}, k ≠ k0 → (zM M9 k0 i0).1 k i = M9.1 k i ∧ (zM M9 k0 i0).2.1 k i = M9.2.1 k i ∧ (zM M9 k0 i0).2.2.1 k i = M9.2.2.1 k i ∧ (zM M9 k0 i0).2.2.2 k i = M9.2.2.2 k i := fun h => zM_off _ (fun q => h q.1)
  have j4 : ∀ {A B : Mem} {k i : Nat}, ¬ sd97 k = true → (mJ sd97 A B).1 k i = B.1 k i ∧ (mJ sd97 A B).2.1 k i = B.2.1 k i ∧ (mJ sd97 A B).2.2.1 k i = B.2.2.1 k i ∧ (mJ sd97 A B).2.2.2 k i = B.2.2.2 k i := fun h => mJ_off h
  have hRR : RepRoom S0 [] 0 (zM (zM (mJ sd97 M4 (zM M2 97 0)) 80 0) 81 0) := by
    refine (hR2.rep).lo (Nat.zero_le _) (fun k i hk => ?_)
    have g : ¬ sd97 k = true := fun q => by rcases sd97_iff.mp q with g | g <;> omega
    obtain ⟨a1, a2, a3, a4⟩ := nz (M9 := zM (mJ sd97 M4 (zM M2 97 0)) 80 0) (k := k) (i := i) (k0 := 81) (i0 := 0) (by omega)
    obtain ⟨b1, b2, b3, b4⟩ := nz (M9 := mJ sd97 M4 (zM M2 97 0)) (k := k) (i := i) (k0 := 80) (i0 := 0) (by omega)
    obtain ⟨c1, c2, c3, c4⟩ := j4 (A := M4) (B := zM M2 97 0) (k := k) (i := i) g
    obtain ⟨d1, d2, d3, d4⟩ := nz (M9 := M2) (k := k) (i := i) (k0 := 97) (i0 := 0) (by omega)
    exact ⟨by rw [a1, b1, c1, d1], by rw [a2, b2, c2, d2], by rw [a3, b3, c3, d3], by rw [a4, b4, c4, d4]⟩
  have hMM : RepMo S0 [] 0 (zM (zM (mJ sd97 M4 (zM M2 97 0)) 80 0) 81 0) := by
    refine hM4.side (fun k i hk => ?_)
    have g1 : sdM k = true := by
      cases q : sdM k with
      | true => rfl
      | false => exact absurd (show (!sdM k) = true by rw [q]; rfl) hk
    have g2 := sdM_iff.mp g1
    obtain ⟨a1, a2, a3, a4⟩ := nz (M9 := zM (mJ sd97 M4 (zM M2 97 0)) 80 0) (k := k) (i := i) (k0 := 81) (i0 := 0) (by omega)
    obtain ⟨b1, b2, b3, b4⟩ := nz (M9 := mJ sd97 M4 (zM M2 97 0)) (k := k) (i := i) (k0 := 80) (i0 := 0) (by omega)
    obtain ⟨c1, c2, c3, c4⟩ := mJ_on (sd := sd97) (M' := M4) (M := zM M2 97 0) (k := k) (i := i) (sd97_iff.mpr (Or.inl g2))
    exact ⟨by rw [a1, b1, c1], by rw [a2, b2, c2], by rw [a3, b3, c3], by rw [a4, b4, c4]⟩
  refine Wm.lsub (lv' := lvL 0) ⟨rfl, rfl, rfl, rfl, rfl, rfl, trivial⟩ ?_
  show Wm p l e R s m args below meth c 9 D cA b0 _ _ Q 28 _ _ _ (up1 (up1 (cnJ sd97 cntM cnR7) 80 1) 81 1) _
  rw [cnB_start]
  exact kk _ _ ad6 _ (by omega) (by omega) e6 hRR hMM
end Cs
