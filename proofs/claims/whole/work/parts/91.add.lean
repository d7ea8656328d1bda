/-! a shape, a style more; the room at the start -/
section Rows
variable {p : Program} {l : Launch} {e : Env} {R : Room} {s : State} {m : MethodId} {args : Array Value} {below : List Frame} {meth : Method} {c : Code} {nL : Nat} {D : va_G} {cA : Nat → ClassId} {b0 : Nat → Prop} {cells slots : Nat} {Q : State → Prop} {lv : Lv} {st : List AV} {ad : Ads} {cn : Nat → Nat} {M : Mem} {cc : ByteArray} {own : String} {tab : List ExceptionTableEntry} {pc pc' : Nat}
theorem w_throwG (C : Cx l p s m args meth c cc own nL D cA b0 []) {Qc : Array Value → State → Outcome → State → Prop} {X : PX} {mc ms ik is ic p3 p4 p6 p9 p10 : Nat} {cls text : String} {names : List String} (hk : TOK own ik ic cls names) (hstr : (own, is, text) ∈ strL) (d0 : DI cc pc (.new ik) 3 p3) (d3 : DI cc p3 .dup 1 p4) (d4 : DI cc p4 (.ldc is) 2 p6) (d6 : DI cc p6 (.invokespecial ic) 3 p9) (d9 : DI cc p9 .athrow 1 p10)
    (hroom : 6 < R.frames ∧ 103 ≤ R.locals ∧ cells + 1 ≤ R.cells ∧ slots + 6 ≤ R.slots) (hwt : (st.map fun v => if cat2 v then 2 else 1).sum ≤ 8) (hX : X cls M) (hc : cells + 1 ≤ mc) (hs : slots + 6 ≤ ms) : Wm p l e R s m args below meth c nL D cA b0 cells slots (vx_MQ below Qc (mX D cA b0 ad cn X) args s mc ms b0) pc lv st ad cn M := by
  intro H locs ls hw hS hl
  obtain ⟨h1, h2, h3, h4, h5, h6, h7, h8, h9⟩ := hk
  obtain ⟨sa, hsa⟩ := C.2.2.2.2.2.2.2.1.2.2.2.2.1 _ hstr
  have q3 : pc + 3 = p3 := d0.2
  have q4 : pc + 4 = p4 := by rw [← d3.2, ← q3]
  have q6 : pc + 6 = p6 := by rw [← d4.2, ← q4]
  have q9 : pc + 9 = p9 := by rw [← d6.2, ← q6]
  exact vx_throwS (sa := sa) C.1 C.2.1 C.2.2.2.2.2.2.1 C.2.2.2.1 h1 h2 (C.2.2.2.2.1 _ h4) (C.2.2.2.2.1 _ h5) hsa (vx_hat (B := Cond.castable cls cls :: declL.map Cond.declares) (fun w hw => C.2.2.2.2.1 _ (h6 w hw)) h7 (throwB C h8)) h9 C.2.2.2.2.2.2.2.1.2.1 C.2.2.2.2.2.2.2.1.2.2.1 hS (by rw [hl.1, C.2.2.1]) d0.1 (by rw [q3]; exact d3.1) (by rw [q4]; exact d4.1) (by rw [q6]; exact d6.1) (by rw [q9]; exact d9.1)
    (fun x hx => by rw [C.2.2.2.2.2.2.2.2] at hx; cases hx) (by omega) (by rw [stk_cat]; omega) hroom.2.2.1 hroom.2.2.2 C.2.2.2.2.2.1
    (fun t hA hz hk9 => ⟨M, hX, ⟨fun k i hi => (hw.1 k i hi).kept (hk9 _ (hw.1 k i hi).lt), hw.2.1, hw.2.2⟩, ⟨Nat.le_trans hS.1 hz, fun q a1 a2 => (hk9 q (Nat.lt_of_lt_of_le a1 hS.1)).trans (hS.2.1 q a1 a2)⟩⟩) hS.2.2 hc hs
theorem w_throwWG (C : Cx l p s m args meth c cc own nL D cA b0 []) {Qc : Array Value → State → Outcome → State → Prop} {X : PX} {mc ms ik is ic p3 p4 p7 p10 p11 : Nat} {cls text : String} {names : List String} (hk : TOK own ik ic cls names) (hstr : (own, is, text) ∈ strL) (d0 : DI cc pc (.new ik) 3 p3) (d3 : DI cc p3 .dup 1 p4) (d4 : DI cc p4 (.ldc_w is) 3 p7) (d6 : DI cc p7 (.invokespecial ic) 3 p10) (d9 : DI cc p10 .athrow 1 p11)
    (hroom : 6 < R.frames ∧ 103 ≤ R.locals ∧ cells + 1 ≤ R.cells ∧ slots + 6 ≤ R.slots) (hwt : (st.map fun v => if cat2 v then 2 else 1).sum ≤ 8) (hX : X cls M) (hc : cells + 1 ≤ mc) (hs : slots + 6 ≤ ms) : Wm p l e R s m args below meth c nL D cA b0 cells slots (vx_MQ below Qc (mX D cA b0 ad cn X) args s mc ms b0) pc lv st ad cn M := by
  intro H locs ls hw hS hl
  obtain ⟨h1, h2, h3, h4, h5, h6, h7, h8, h9⟩ := hk
  obtain ⟨sa, hsa⟩ := C.2.2.2.2.2.2.2.1.2.2.2.2.1 _ hstr
  have q3 : pc + 3 = p3 := d0.2
  have q4 : pc + 4 = p4 := by rw [← d3.2, ← q3]
  have q6 : pc + 7 = p7 := by rw [← d4.2, ← q4]
  have q9 : pc + 10 = p10 := by rw [← d6.2, ← q6]
  exact vx_throwSW (sa := sa) C.1 C.2.1 C.2.2.2.2.2.2.1 C.2.2.2.1 h1 h2 (C.2.2.2.2.1 _ h4) (C.2.2.2.2.1 _ h5) hsa (vx_hat (B := Cond.castable cls cls :: declL.map Cond.declares) (fun w hw => C.2.2.2.2.1 _ (h6 w hw)) h7 (throwB C h8)) h9 C.2.2.2.2.2.2.2.1.2.1 C.2.2.2.2.2.2.2.1.2.2.1 hS (by rw [hl.1, C.2.2.1]) d0.1 (by rw [q3]; exact d3.1) (by rw [q4]; exact d4.1) (by rw [q6]; exact d6.1) (by rw [q9]; exact d9.1)
    (fun x hx => by rw [C.2.2.2.2.2.2.2.2] at hx; cases hx) (by omega) (by rw [stk_cat]; omega) hroom.2.2.1 hroom.2.2.2 C.2.2.2.2.2.1
    (fun t hA hz hk9 => ⟨M, hX, ⟨fun k i hi => (hw.1 k i hi).kept (hk9 _ (hw.1 k i hi).lt), hw.2.1, hw.2.2⟩, ⟨Nat.le_trans hS.1 hz, fun q a1 a2 => (hk9 q (Nat.lt_of_lt_of_le a1 hS.1)).trans (hS.2.1 q a1 a2)⟩⟩) hS.2.2 hc hs
end Rows
theorem RepMF.ids {f : Nat → Nat} {mi : Nat} {S : Sg} {P : List Pc} {nx : Nat} {M M' : Mem} (h : RepMF f mi S P nx M) (hP : P.length ≤ 40) {K : Nat → Nat → Prop} (hF : Fr K M M') (hk : ∀ k i, K k i → k ≠ 2 ∧ k ≠ 12 ∧ k ≠ 22 ∧ k ≠ 23 ∧ k ≠ 24 ∧ k ≠ 25 ∧ k ≠ 3) : RepMF f mi S P nx M' :=
  h.fr hP hF ⟨fun q => (hk _ _ q).1 rfl, fun q => (hk _ _ q).2.1 rfl, fun q => (hk _ _ q).2.2.1 rfl, fun q => (hk _ _ q).2.2.2.1 rfl, fun q => (hk _ _ q).2.2.2.2.1 rfl, fun q => (hk _ _ q).2.2.2.2.2.1 rfl⟩ (fun _ _ q => (hk _ _ q).2.2.2.2.2.2 rfl)
theorem cnt_sh {ns nt k : Nat} (h : ¬ (k = 4 ∨ k = 13 ∨ k = 30 ∨ k = 5 ∨ k = 31)) : cnt (ns + 1) nt k = cnt ns nt k := by
  unfold cnt
  split <;> first | rfl | (exfalso; omega)
theorem cnt_st {ns nt k : Nat} (h : ¬ (k = 6 ∨ k = 32)) : cnt ns (nt + 1) k = cnt ns nt k := by
  unfold cnt
  split <;> first | rfl | (exfalso; omega)
theorem RepRoom.addSh {S : Sg} {P : List Pc} {nx : Nat} {M M' : Mem} {a : Int} {b : Nat} (h : RepRoom S P nx M) (hI : Inv S P nx) (hZ : InvZ S) (h8 : nsS S < 8) (ha : 0 ≤ a)
    (hF : Fr (fun k i => (i = nsS S ∧ (k = 4 ∨ k = 13 ∨ k = 30)) ∨ ((k = 5 ∨ k = 31) ∧ 8 * nsS S ≤ i) ∨ (k = 0 ∧ i = 0) ∨ (k = 10 ∧ i = 0) ∨ 90 ≤ k) M M')
    (g4 : ∀ t, M'.1 4 (nsS S) t = if t = 0 then a else if t = 1 then (b : Int) else if t = 5 then -1 else 0) (gl : ∀ t, M'.2.2.1 4 (nsS S) t = 0) (g30 : ∀ t, M'.1 30 (nsS S) t = 0) (gO : ∀ t, t < 8 → M'.2.1 13 (nsS S) t = some (8 * nsS S + t) ∧ (∀ y, M'.1 5 (8 * nsS S + t) y = if y = 1 then ((t / 4 : Nat) : Int) else if y = 0 then ((t % 4 : Nat) : Int) else 0) ∧ ∀ y, M'.1 31 (8 * nsS S + t) y = 0)
    (g0 : ∀ t, t ≠ 3 → M'.1 0 0 t = M.1 0 0 t) (g03 : M'.1 0 0 3 = ((nsS S + 1 : Nat) : Int)) (g10 : ∀ t, M'.2.1 10 0 t = if t = nsS S then some (nsS S) else M.2.1 10 0 t) :
    RepRoom (up3 (up3 (up3 S 7 (nsS S) 0 a.toNat) 8 (nsS S) 0 b) 6 0 0 (nsS S + 1)) P nx M' := by
  generalize hS : up3 (up3 (up3 S 7 (nsS S) 0 a.toNat) 8 (nsS S) 0 b) 6 0 0 (nsS S + 1) = S'
  have e : ∀ f i q, ¬ (f = 6 ∨ (f = 7 ∨ f = 8) ∧ i = nsS S) → S' f i q = S f i q := fun f i q h => by
    rw [← hS, up3_ne _ _ (by omega), up3_ne _ _ (by omega), up3_ne _ _ (by omega)]
  have e6 : nsS S' = nsS S + 1 := by
    show S' 6 0 0 = _
    rw [← hS, up3_eq]
  have e7 : ruS S' (nsS S) = a.toNat := by
    show S' 7 (nsS S) 0 = _
    rw [← hS, up3_ne _ _ (by omega), up3_ne _ _ (by omega), up3_eq]
  have e8 : paS S' (nsS S) = b := by
    show S' 8 (nsS S) 0 = _
    rw [← hS, up3_ne _ _ (by omega), up3_eq]
  have hdB : ∀ j, dB S' j = dB S j := fun j => by
    funext k
    unfold dB
    rw [show drS S' j k = drS S j k from e 9 _ k (by omega)]
  have hcg : ∀ p ∈ P, ShpCg S S' (pShp p) := fun p hp => ⟨hdB _, e 11 _ 0 (by omega), e 12 _ 0 (by omega), e 13 _ 0 (by omega)⟩
  have hgar : ∀ j, garS S' j = garS S j := fun j => by
    unfold garS
    refine sumN_cg fun y _ => ?_
    rw [show mdS S' y = mdS S y from e 17 y 0 (by omega), show ctS S' y j = ctS S y j from e 16 y j (by omega)]
    by_cases hj : j = nsS S
    · obtain ⟨z1, z2, z3, z4, z5, z6, z7, z8, z9, z10⟩ := hZ.1 j (by omega)
      rw [z10 y, Nat.zero_mul, Nat.zero_mul]
    · unfold pppS
      rw [show paS S' j = paS S j from e 8 j 0 (by omega)]
  have heS : ∀ j, eS S' j = eS S j := fun j => by
    unfold eS
    rw [hgar, show stS S' j 0 = stS S j 0 from e 14 j 0 (by omega), show stS S' j 1 = stS S j 1 from e 14 j 1 (by omega)]
  have hmk : ∀ j u v, mkR S' j u v = mkR S j u v := fun j u v => by
    unfold mkR
    rw [hdB, show mrS S' j = mrS S j from e 12 j 0 (by omega), show mcS S' j = mcS S j from e 13 j 0 (by omega)]
  have hfl : ∀ k, flS S' k = flS S k := fun k => e 5 0 k (by omega)
  have w0 : wdS S' = wdS S := e 0 0 0 (by omega)
  have w1 : npS S' = npS S := e 1 0 0 (by omega)
  have w2 : fdS S' = fdS S := e 2 0 0 (by omega)
  have w3 : srS S' = srS S := e 3 0 0 (by omega)
  have w4 : nfS S' = nfS S := e 4 0 0 (by omega)
  have w15 : ntS S' = ntS S := e 15 0 0 (by omega)
  obtain ⟨r1, r2, ⟨f, r3⟩, r4, ⟨q1, q2, q3, q4, q5⟩, r6⟩ := h
  refine ⟨?_, fun j hj => ?_, ⟨f, ?_⟩, fun y hy => ?_, ⟨?_, ?_, ?_, fun j hj => ?_, fun y hy => ?_⟩, ?_⟩
  · obtain ⟨⟨a1, a2, a3, a4, a5, a6⟩, a7⟩ := r1.fr hF (by omega) (by omega) (by omega)
    refine ⟨⟨by rw [w0]; exact a1, by rw [w1]; exact a2, by rw [w2]; exact a3, by rw [w3]; exact a4, by rw [w4]; exact a5, fun r hr => ?_⟩, fun r hr => ?_⟩
    · simp only [hfl]
      exact a6 r hr
    · rw [a7 r hr]
      refine congrArg (fun z : Nat => (z : Int)) (bitsN_cg fun i _ => ?_)
      unfold badS
      rw [hfl, hfl, w0, w2]
  · rw [e6] at hj
    by_cases hjn : j = nsS S
    · subst hjn
      obtain ⟨z1, z2, z3, z4, z5, z6, z7, z8, z9, z10⟩ := hZ.1 (nsS S) (Nat.le_refl _)
      have s10 : szS S' (nsS S) = 0 := (e 10 _ 0 (by omega)).trans z4
      have s11 : gpS S' (nsS S) = 0 := (e 11 _ 0 (by omega)).trans z5
      have s12 : mrS S' (nsS S) = 0 := (e 12 _ 0 (by omega)).trans z6
      have s13 : mcS S' (nsS S) = 0 := (e 13 _ 0 (by omega)).trans z7
      have s14 : stS S' (nsS S) 0 = 0 := (e 14 _ 0 (by omega)).trans z8
      have s14' : stS S' (nsS S) 1 = 0 := (e 14 _ 1 (by omega)).trans z9
      have d0 : ∀ k, dB S' (nsS S) k = false := fun k => by
        unfold dB
        rw [show drS S' (nsS S) k = 0 from (e 9 _ k (by omega)).trans (z3 k)]
        rfl
      refine ⟨⟨?_, ?_, ?_, ?_, ?_, ?_, fun r hr => ?_, ?_⟩, ⟨?_, ?_, ?_⟩, fun o ho => ⟨(gO o ho).1, ?_, ?_, fun hz => ?_⟩⟩
      · rw [e7, g4]
        show a = _
        omega
      · rw [e8, g4]
        rfl
      · rw [s10, g4]
        rfl
      · rw [s11, g4]
        rfl
      · rw [s12, g4]
        rfl
      · rw [s13, g4]
        rfl
      · rw [g30, show (fun c => dB S' (nsS S) (5 * r + c)) = fun _ => false from funext fun c => d0 _]
        rfl
      · rw [s10]
        exact ⟨fun q => absurd q (Nat.lt_irrefl 0), fun ⟨k, _, q⟩ => by rw [d0 k] at q; cases q⟩
      · rw [s14, g4]
        rfl
      · rw [s14', g4]
        rfl
      · rw [heS, eS_0 hZ (Nat.le_refl _), gl]
        rfl
      · rw [(gO o ho).2.1]
        rfl
      · rw [(gO o ho).2.1]
        rfl
      · rw [s10] at hz
        exact absurd hz (Nat.lt_irrefl 0)
    · obtain ⟨b1, b2, b3⟩ := r2 j (by omega)
      obtain ⟨a1, a2, a3, a4, a5, a6, a7, a8⟩ := b1.fr hF (by omega) (by omega)
      obtain ⟨c1, c2, c3⟩ := b2.fr hF (by omega)
      have e10 : szS S' j = szS S j := e 10 j 0 (by omega)
      refine ⟨⟨?_, ?_, ?_, ?_, ?_, ?_, ?_, ?_⟩, ⟨?_, ?_, ?_⟩, fun o ho => ?_⟩
      · rw [show ruS S' j = ruS S j from e 7 j 0 (by omega)]; exact a1
      · rw [show paS S' j = paS S j from e 8 j 0 (by omega)]; exact a2
      · rw [e10]; exact a3
      · rw [show gpS S' j = gpS S j from e 11 j 0 (by omega)]; exact a4
      · rw [show mrS S' j = mrS S j from e 12 j 0 (by omega)]; exact a5
      · rw [show mcS S' j = mcS S j from e 13 j 0 (by omega)]; exact a6
      · rw [hdB]; exact a7
      · rw [hdB, e10]; exact a8
      · rw [show stS S' j 0 = stS S j 0 from e 14 j 0 (by omega)]; exact c1
      · rw [show stS S' j 1 = stS S j 1 from e 14 j 1 (by omega)]; exact c2
      · rw [heS]; exact c3
      · obtain ⟨d1, d2⟩ := b3 o ho
        obtain ⟨f1, f2, f3⟩ := d2.fr hF (by omega) (by omega)
        refine ⟨by rw [(hF 13 j (by omega)).2.1]; exact d1, f1, f2, fun hz => ?_⟩
        rw [e10] at hz
        obtain ⟨k1, k2, k3, k4⟩ := f3 hz
        rw [hdB, hmk]
        exact ⟨k1, k2, k3, k4⟩
  · exact (r3.ids hI.2.2.1 hF (fun k i h => by omega)).cg hcg (fun _ => w3)
  · rw [w15] at hy
    obtain ⟨a1, a2⟩ := r4.fr hF (fun i => by omega) y hy
    exact ⟨fun j hj => by rw [show ctS S' y j = ctS S y j from e 16 y j (by omega)]; exact a1 j hj, by rw [show mdS S' y = mdS S y from e 17 y 0 (by omega)]; exact a2⟩
  · rw [e6]; exact g03
  · rw [w15, g0 5 (by omega)]; exact q2
  · rw [show rlS S' = rlS S from e 18 0 0 (by omega), g0 6 (by omega)]; exact q3
  · rw [e6, g10 j, q4 j hj]
    (repeat' split) <;> first | rfl | (exfalso; omega) | (subst_vars; rfl)
  · rw [w15, (hF 11 0 (by omega)).2.1]
    exact q5 y hy
  · obtain ⟨ff, t1, t2⟩ := r6
    exact ⟨ff, fun i hi => by rw [(hF 12 1 (by omega)).2.1]; exact t1 i hi, t2⟩
theorem c_X6_addShape {l : Launch} (hl : l.stackTraces = false) {b0 : Nat → Prop} {ad : Ads} {cn : Nat → Nat} {M : Mem} {nt : Nat} {S : Sg} {P : List Pc} {nx : Nat} (hI : Inv S P nx) (hZ : InvZ S) (hR : RepRoom S P nx M) (a : Int) (ha : 0 ≤ a ∧ a ≤ 65535) (b : Nat) (hb : b ≤ 1) (hcn : cn = cnt (nsS S) nt) : ConN l b0 yX6_addShape cX6_addShape 4 (some .int) 9 20 120 [aO 0 0, aI a, aI b] ad cn M (fun r ad' cn' M' => okR (oAddShape a b S P nx) r M' ∧ cn' = cnt (nsS (oAddShape a b S P nx).2.2.1) nt ∧ ∀ k' i', k' ∉ [4, 5, 13, 30, 31, 92, 94] → ad' k' i' = ad k' i') (exR (oAddShape a b S P nx) [eIA, eIS]) := by
  have g3 := hR.2.2.2.2.1.1
  subst hcn
  have T1 : ¬ (a = 110 ∨ a = 104 ∨ a = 113) → exR (oAddShape a b S P nx) [eIA, eIS] eIA M := fun h => ⟨0, rfl, by unfold oAddShape; rw [if_pos h], by unfold oAddShape; rw [if_pos h]; exact hR⟩
  have T2 : (a = 110 ∨ a = 104 ∨ a = 113) → 8 ≤ nsS S → exR (oAddShape a b S P nx) [eIA, eIS] eIS M := fun h h2 => ⟨1, rfl, by unfold oAddShape; rw [if_neg (fun q => q h), if_pos h2], by unfold oAddShape; rw [if_neg (fun q => q h), if_pos h2]; exact hR⟩
  have G := hI.1.2.2.2.2.2.1
  refine ConN.of hl pl_X6 (Nat.le_of_ble_eq_true rfl) ?_
  intro D cA p e s m args below meth c C hr hnam
  have L28 : (a = 110 ∨ a = 104 ∨ a = 113) → Wm p l e (rmd 9 20 120) s m args below meth c 4 D cA b0 (0) (0) (vx_MQ below (mQN D cA b0 (fun r ad' cn' M' => okR (oAddShape a b S P nx) r M' ∧ cn' = cnt (nsS (oAddShape a b S P nx).2.2.1) nt ∧ ∀ k' i', k' ∉ [4, 5, 13, 30, 31, 92, 94] → ad' k' i' = ad k' i')) (mX D cA b0 ad (cnt (nsS S) nt) (exR (oAddShape a b S P nx) [eIA, eIS])) args s 20 120 b0) 28 [(0, aO 0 0), (1, aI a), (2, aI b)] [] ad (cnt (nsS S) nt) M := by
    intro hq
    refine w_aload_n C dX6_addShape_28 rfl ?_
    refine g_X6_123 C dX6_addShape_29 (by first | assumption | exact Nat.zero_lt_one | exact Nat.zero_lt_two | exact Nat.one_lt_two) ?_
    refine Wm.top (show aI (M.1 0 0 3) = aI (nsS S : Int) by rw [g3]) ?_
    refine w_istore_n C dX6_addShape_32 (by decide) ?_
    refine w_iload_n C dX6_addShape_33 rfl ?_
    refine w_if_lt C dX6_addShape_34 (by omega) (fun h34 => ?_) (fun h34 => ?_)
    · omega
    · refine w_iload_n C dX6_addShape_37 rfl ?_
      refine w_aload_n C dX6_addShape_38 rfl ?_
      refine g_X6_25 C dX6_addShape_39 (by first | assumption | exact Nat.zero_lt_one | exact Nat.zero_lt_two | exact Nat.one_lt_two) ?_
      refine w_alen C dX6_addShape_42 Nat.zero_lt_one (Or.inr (Or.inr (Or.inr ⟨5, 4, by decide, RA_10⟩))) ?_
      refine w_icmp_lt C dX6_addShape_43 (by omega) (by omega) (fun h43 => ?_) (fun h43 => ?_)
      · refine w_aload_n C dX6_addShape_56 rfl ?_
        refine g_X6_25 C dX6_addShape_57 (by first | assumption | exact Nat.zero_lt_one | exact Nat.zero_lt_two | exact Nat.one_lt_two) ?_
        refine w_iload_n C dX6_addShape_60 rfl ?_
        refine w_new_X4 (i := 0) C (by first | rfl | assumption | (simp [up1, Nat.zero_lt_one]; done)) dX6_addShape_61 lc_X6_23 rfl ⟨by first | decide | (show _ ≤ _; simp only [rmd]; omega), by first | decide | (show _ ≤ _; simp only [rmd]; omega)⟩ ?_
        intro ad61 hag61
        refine w_dup C dX6_addShape_64 rfl ?_
        refine w_iload_n C dX6_addShape_65 rfl ?_
        refine w_iload_n C dX6_addShape_66 rfl ?_
        refine w_ctor (ks := [4, 5, 13, 30, 31, 92]) C dX6_addShape_67 (c_X4_init hl (nsS S) a b ha (by omega) rfl rfl rfl rfl rfl rfl rfl (zM_on M 94 0).1 (zM_on M 94 0).2.2.1) mX4_init vi_X4_init li_X6_128 rfl rfl ⟨by first | decide | (simp only [rmd]; omega), by first | decide | (simp only [rmd]; omega), by first | decide | (simp only [rmd]; omega), by first | decide | (simp only [rmd]; omega)⟩ (Nat.le_of_ble_eq_true rfl) rfl (fun _ _ _ _ h => ⟨h.1, h.2.1, h.2.2.1⟩) (fun ad67 cn67 M67 q67 => ?_)
        obtain ⟨-, a67, b67, rfl, f67, u1, u2, u3, u4⟩ := q67
        refine w_aast (ci := 4) C dX6_addShape_70 Nat.zero_lt_one RA_10 rfl rfl (fun _ => rfl) (Nat.lt_succ_self _) rfl (by omega) ?_
        have z : ∀ k i, k ≠ 94 → ¬ ((i = nsS S ∧ (k = 4 ∨ k = 13 ∨ k = 30)) ∨ ((k = 5 ∨ k = 31) ∧ 8 * nsS S ≤ i) ∨ k = 92 ∨ k = 94) → M67.1 k i = M.1 k i ∧ M67.2.1 k i = M.2.1 k i := fun k i h1 h2 => by
          obtain ⟨x1, x2, -, -⟩ := f67 k i h2
          obtain ⟨y1, y2, -, -⟩ := zM_off M (k := 94) (i := 0) (k' := k) (i' := i) (by omega)
          exact ⟨x1.trans y1, x2.trans y2⟩
        have e0 : M67.1 0 0 3 = (nsS S : Int) := by rw [(z 0 0 (by omega) (by omega)).1, g3]
        refine w_aload_n C dX6_addShape_71 rfl ?_
        refine w_dup C dX6_addShape_72 rfl ?_
        refine g_X6_123 C dX6_addShape_73 (by first | assumption | exact Nat.zero_lt_one | exact Nat.zero_lt_two | exact Nat.one_lt_two) ?_
        refine w_iconst C dX6_addShape_76 ?_
        refine w_iadd C dX6_addShape_77 ?_
        refine p_X6_123 C dX6_addShape_78 (by first | assumption | exact Nat.zero_lt_one | exact Nat.zero_lt_two | exact Nat.one_lt_two) ?_
        refine w_iload_n C dX6_addShape_81 rfl ?_
        refine Wm.eqC (cn' := cnt (nsS S + 1) nt) (by
          funext k
          by_cases h9 : k = 4 ∨ k = 13 ∨ k = 30 ∨ k = 5 ∨ k = 31
          · rcases h9 with rfl | rfl | rfl | rfl | rfl <;> rfl
          · rw [cnt_sh (by omega)]
            by_cases h94 : k = 94
            · subst h94
              rfl
            · rw [if_neg (by omega), if_neg (by omega), if_neg h94]
              exact up1_ne h94) ?_
        have eo : oAddShape a b S P nx = (0, (nsS S : Int), up3 (up3 (up3 S 7 (nsS S) 0 a.toNat) 8 (nsS S) 0 b) 6 0 0 (nsS S + 1), P, nx) := by unfold oAddShape; rw [if_neg (fun q => q hq), if_neg (by omega)]
        refine w_iretN C hr dX6_addShape_82 rfl (⟨⟨by rw [eo], by rw [eo], ?_⟩, by rw [eo]; rfl, fun k' i' h => ?_⟩) (by first | decide | omega) (by first | decide | omega)
        · rw [eo]
          refine hR.addSh hI hZ (by omega) ha.1 ?_ ?_ ?_ ?_ ?_ ?_ ?_ ?_
          · refine Fr.uI (Fr.uR ((Fr.rf.zM (by omega)).tr (f67.mono (fun k i h => by omega))) (by omega)) (by omega)
          · intro t
            rw [uI_get, if_neg (by omega)]
            exact u1 t
          · exact u2
          · intro t
            rw [uI_get, if_neg (by omega)]
            exact u3 t
          · intro t ht
            obtain ⟨v1, v2, v3⟩ := u4 t ht
            refine ⟨?_, fun y => ?_, fun y => ?_⟩
            · rw [uI_r, uR_get, if_neg (by omega)]
              exact v1
            · rw [uI_get, if_neg (by omega)]
              exact v2 y
            · rw [uI_get, if_neg (by omega)]
              exact v3 y
          · intro t ht
            rw [uI_get, if_neg (by omega)]
            exact congrFun (z 0 0 (by omega) (by omega)).1 t
          · rw [uI_get, if_pos ⟨rfl, rfl, rfl⟩]
            show M67.1 0 0 3 + 1 = _
            omega
          · intro t
            show (if 10 = 10 ∧ 0 = 0 ∧ t = (nsS S : Int).toNat then some (nsS S) else M67.2.1 10 0 t) = _
            rw [(z 10 0 (by omega) (by omega)).2]
            simp
        · simp at h
          rw [b67 _ _ (by simp; omega), hag61 _ _ (by omega)]
      · refine w_throwG C tk_66_70 ts_126 dX6_addShape_46 dX6_addShape_49 dX6_addShape_50 dX6_addShape_52 dX6_addShape_55 ⟨by decide, by decide, by decide, by decide⟩ (Nat.le_of_ble_eq_true rfl) (T2 hq (by omega)) (by decide) (by decide)
  refine w_iload_n C dX6_addShape_0 rfl ?_
  refine w_bipush (v := 110) C dX6_addShape_1 rfl ?_
  refine w_icmp_eq C dX6_addShape_3 (by omega) (by omega) (fun h3 => ?_) (fun h3 => ?_)
  · exact L28 (by omega)
  · refine w_iload_n C dX6_addShape_6 rfl ?_
    refine w_bipush (v := 104) C dX6_addShape_7 rfl ?_
    refine w_icmp_eq C dX6_addShape_9 (by omega) (by omega) (fun h9 => ?_) (fun h9 => ?_)
    · exact L28 (by omega)
    · refine w_iload_n C dX6_addShape_12 rfl ?_
      refine w_bipush (v := 113) C dX6_addShape_13 rfl ?_
      refine w_icmp_eq C dX6_addShape_15 (by omega) (by omega) (fun h15 => ?_) (fun h15 => ?_)
      · exact L28 (by omega)
      · refine w_throwG C tk_52_56 ts_121 dX6_addShape_18 dX6_addShape_21 dX6_addShape_22 dX6_addShape_24 dX6_addShape_27 ⟨by decide, by decide, by decide, by decide⟩ (Nat.le_of_ble_eq_true rfl) (T1 (by omega)) (by decide) (by decide)
theorem RepRoom.addSt {S : Sg} {P : List Pc} {nx : Nat} {M M' : Mem} (h : RepRoom S P nx M) (hI : Inv S P nx) (hZ : InvZ S)
    (hF : Fr (fun k i => (i = ntS S ∧ (k = 6 ∨ k = 32)) ∨ (k = 0 ∧ i = 0) ∨ (k = 11 ∧ i = 0) ∨ 90 ≤ k) M M') (g6 : ∀ t, M'.1 6 (ntS S) t = 0) (g32 : ∀ t, M'.1 32 (ntS S) t = 0)
    (g0 : ∀ t, t ≠ 5 → M'.1 0 0 t = M.1 0 0 t) (g05 : M'.1 0 0 5 = ((ntS S + 1 : Nat) : Int)) (g11 : ∀ t, M'.2.1 11 0 t = if t = ntS S then some (ntS S) else M.2.1 11 0 t) :
    RepRoom (up3 S 15 0 0 (ntS S + 1)) P nx M' := by
  generalize hS : up3 S 15 0 0 (ntS S + 1) = S'
  have e : ∀ f i q, f ≠ 15 → S' f i q = S f i q := fun f i q h => by
    rw [← hS, up3_ne _ _ (by omega)]
  have e15 : ntS S' = ntS S + 1 := by
    show S' 15 0 0 = _
    rw [← hS, up3_eq]
  obtain ⟨r1, r2, ⟨f, r3⟩, r4, ⟨q1, q2, q3, q4, q5⟩, r6⟩ := h
  have hdB : ∀ j, dB S' j = dB S j := fun j => by
    funext k
    unfold dB
    rw [show drS S' j k = drS S j k from e 9 _ k (by omega)]
  have hcg : ∀ p ∈ P, ShpCg S S' (pShp p) := fun p hp => ⟨hdB _, e 11 _ 0 (by omega), e 12 _ 0 (by omega), e 13 _ 0 (by omega)⟩
  have hgar : ∀ j, garS S' j = garS S j := fun j => by
    unfold garS
    refine sumN_cg fun y _ => ?_
    unfold pppS
    rw [show mdS S' y = mdS S y from e 17 y 0 (by omega), show ctS S' y j = ctS S y j from e 16 y j (by omega), show paS S' j = paS S j from e 8 j 0 (by omega)]
  have heS : ∀ j, eS S' j = eS S j := fun j => by
    unfold eS
    rw [hgar, show stS S' j 0 = stS S j 0 from e 14 j 0 (by omega), show stS S' j 1 = stS S j 1 from e 14 j 1 (by omega)]
  have hmk : ∀ j u v, mkR S' j u v = mkR S j u v := fun j u v => by
    unfold mkR
    rw [hdB, show mrS S' j = mrS S j from e 12 j 0 (by omega), show mcS S' j = mcS S j from e 13 j 0 (by omega)]
  have hfl : ∀ k, flS S' k = flS S k := fun k => e 5 0 k (by omega)
  have w0 : wdS S' = wdS S := e 0 0 0 (by omega)
  have w1 : npS S' = npS S := e 1 0 0 (by omega)
  have w2 : fdS S' = fdS S := e 2 0 0 (by omega)
  have w3 : srS S' = srS S := e 3 0 0 (by omega)
  have w4 : nfS S' = nfS S := e 4 0 0 (by omega)
  have w6 : nsS S' = nsS S := e 6 0 0 (by omega)
  refine ⟨?_, fun j hj => ?_, ⟨f, ?_⟩, fun y hy => ?_, ⟨?_, ?_, ?_, fun j hj => ?_, fun y hy => ?_⟩, ?_⟩
  · obtain ⟨⟨a1, a2, a3, a4, a5, a6⟩, a7⟩ := r1.fr hF (by omega) (by omega) (by omega)
    refine ⟨⟨by rw [w0]; exact a1, by rw [w1]; exact a2, by rw [w2]; exact a3, by rw [w3]; exact a4, by rw [w4]; exact a5, fun r hr => ?_⟩, fun r hr => ?_⟩
    · simp only [hfl]
      exact a6 r hr
    · rw [a7 r hr]
      refine congrArg (fun z : Nat => (z : Int)) (bitsN_cg fun i _ => ?_)
      unfold badS
      rw [hfl, hfl, w0, w2]
  · rw [w6] at hj
    obtain ⟨b1, b2, b3⟩ := r2 j (by omega)
    obtain ⟨a1, a2, a3, a4, a5, a6, a7, a8⟩ := b1.fr hF (by omega) (by omega)
    obtain ⟨c1, c2, c3⟩ := b2.fr hF (by omega)
    have e10 : szS S' j = szS S j := e 10 j 0 (by omega)
    refine ⟨⟨?_, ?_, ?_, ?_, ?_, ?_, ?_, ?_⟩, ⟨?_, ?_, ?_⟩, fun o ho => ?_⟩
    · rw [show ruS S' j = ruS S j from e 7 j 0 (by omega)]; exact a1
    · rw [show paS S' j = paS S j from e 8 j 0 (by omega)]; exact a2
    · rw [e10]; exact a3
    · rw [show gpS S' j = gpS S j from e 11 j 0 (by omega)]; exact a4
    · rw [show mrS S' j = mrS S j from e 12 j 0 (by omega)]; exact a5
    · rw [show mcS S' j = mcS S j from e 13 j 0 (by omega)]; exact a6
    · rw [hdB]; exact a7
    · rw [hdB, e10]; exact a8
    · rw [show stS S' j 0 = stS S j 0 from e 14 j 0 (by omega)]; exact c1
    · rw [show stS S' j 1 = stS S j 1 from e 14 j 1 (by omega)]; exact c2
    · rw [heS]; exact c3
    · obtain ⟨d1, d2⟩ := b3 o ho
      obtain ⟨f1, f2, f3⟩ := d2.fr hF (by omega) (by omega)
      refine ⟨by rw [(hF 13 j (by omega)).2.1]; exact d1, f1, f2, fun hz => ?_⟩
      rw [e10] at hz
      obtain ⟨k1, k2, k3, k4⟩ := f3 hz
      rw [hdB, hmk]
      exact ⟨k1, k2, k3, k4⟩
  · exact (r3.ids hI.2.2.1 hF (fun k i h => by omega)).cg hcg (fun _ => w3)
  · rw [e15] at hy
    by_cases hyn : y = ntS S
    · subst hyn
      obtain ⟨z1, z2⟩ := hZ.2 (ntS S) (Nat.le_refl _)
      exact ⟨fun j hj => by rw [show ctS S' (ntS S) j = ctS S (ntS S) j from e 16 _ j (by omega), z2 j, g32]; rfl, by rw [show mdS S' (ntS S) = mdS S (ntS S) from e 17 _ 0 (by omega), z1, g6]; rfl⟩
    · obtain ⟨a1, a2⟩ := r4 y (by omega)
      exact ⟨fun j hj => by rw [show ctS S' y j = ctS S y j from e 16 y j (by omega), (hF 32 y (by omega)).1]; exact a1 j hj, by rw [show mdS S' y = mdS S y from e 17 y 0 (by omega), (hF 6 y (by omega)).1]; exact a2⟩
  · rw [w6, g0 3 (by omega)]; exact q1
  · rw [e15]; exact g05
  · rw [show rlS S' = rlS S from e 18 0 0 (by omega), g0 6 (by omega)]; exact q3
  · rw [w6, (hF 10 0 (by omega)).2.1]
    exact q4 j hj
  · rw [e15, g11 y, q5 y hy]
    (repeat' split) <;> first | rfl | (exfalso; omega) | (subst_vars; rfl)
  · obtain ⟨ff, t1, t2⟩ := r6
    exact ⟨ff, fun i hi => by rw [(hF 12 1 (by omega)).2.1]; exact t1 i hi, t2⟩
theorem c_X6_addStyle {l : Launch} (hl : l.stackTraces = false) {b0 : Nat → Prop} {ad : Ads} {cn : Nat → Nat} {M : Mem} {ns : Nat} {S : Sg} {P : List Pc} {nx : Nat} (hI : Inv S P nx) (hZ : InvZ S) (hR : RepRoom S P nx M) (hcn : cn = cnt ns (ntS S)) : ConN l b0 yX6_addStyle cX6_addStyle 2 (some .int) 9 5 30 [aO 0 0] ad cn M (fun r ad' cn' M' => okR (oAddStyle S P nx) r M' ∧ cn' = cnt ns (ntS (oAddStyle S P nx).2.2.1) ∧ ∀ k' i', k' ∉ [6, 32, 95] → ad' k' i' = ad k' i') (exR (oAddStyle S P nx) [eIS]) := by
  have g5 := hR.2.2.2.2.1.2.1
  subst hcn
  have T1 : 4 ≤ ntS S → exR (oAddStyle S P nx) [eIS] eIS M := fun h => ⟨0, rfl, by unfold oAddStyle; rw [if_pos h], by unfold oAddStyle; rw [if_pos h]; exact hR⟩
  have G := hI.1.2.2.2.2.2.2.1
  refine ConN.of hl pl_X6 (Nat.le_of_ble_eq_true rfl) ?_
  intro D cA p e s m args below meth c C hr hnam
  refine w_aload_n C dX6_addStyle_0 rfl ?_
  refine g_X6_273 C dX6_addStyle_1 (by first | assumption | exact Nat.zero_lt_one | exact Nat.zero_lt_two | exact Nat.one_lt_two) ?_
  refine Wm.top (show aI (M.1 0 0 5) = aI (ntS S : Int) by rw [g5]) ?_
  refine w_istore_n C dX6_addStyle_4 (by decide) ?_
  refine w_iload_n C dX6_addStyle_5 rfl ?_
  refine w_if_lt C dX6_addStyle_6 (by omega) (fun h6 => ?_) (fun h6 => ?_)
  · omega
  · refine w_iload_n C dX6_addStyle_9 rfl ?_
    refine w_aload_n C dX6_addStyle_10 rfl ?_
    refine g_X6_31 C dX6_addStyle_11 (by first | assumption | exact Nat.zero_lt_one | exact Nat.zero_lt_two | exact Nat.one_lt_two) ?_
    refine w_alen C dX6_addStyle_14 Nat.zero_lt_one (Or.inr (Or.inr (Or.inr ⟨6, 6, by decide, RA_11⟩))) ?_
    refine w_icmp_lt C dX6_addStyle_15 (by omega) (by omega) (fun h15 => ?_) (fun h15 => ?_)
    · refine w_aload_n C dX6_addStyle_29 rfl ?_
      refine g_X6_31 C dX6_addStyle_30 (by first | assumption | exact Nat.zero_lt_one | exact Nat.zero_lt_two | exact Nat.one_lt_two) ?_
      refine w_iload_n C dX6_addStyle_33 rfl ?_
      refine w_new_X5 (i := 0) C (by first | rfl | assumption | (simp [up1, Nat.zero_lt_one]; done)) dX6_addStyle_34 lc_X6_29 rfl ⟨by first | decide | (show _ ≤ _; simp only [rmd]; omega), by first | decide | (show _ ≤ _; simp only [rmd]; omega)⟩ ?_
      intro ad34 hag34
      refine w_dup C dX6_addStyle_37 rfl ?_
      refine w_ctor (ks := [6, 32]) C dX6_addStyle_38 (c_X5_init hl (ntS S) rfl rfl rfl (zM_on M 95 0).1) mX5_init vi_X5_init li_X6_278 rfl rfl ⟨by first | decide | (simp only [rmd]; omega), by first | decide | (simp only [rmd]; omega), by first | decide | (simp only [rmd]; omega), by first | decide | (simp only [rmd]; omega)⟩ (Nat.le_of_ble_eq_true rfl) rfl (fun _ _ _ _ h => ⟨h.1, h.2.1, h.2.2.1⟩) (fun ad38 cn38 M38 q38 => ?_)
      obtain ⟨-, a38, b38, rfl, f38, u1, u2⟩ := q38
      refine w_aast (ci := 5) C dX6_addStyle_41 Nat.zero_lt_one RA_11 rfl rfl (fun _ => rfl) (Nat.lt_succ_self _) rfl (by omega) ?_
      have z : ∀ k i, k ≠ 95 → ¬ ((k = 32 ∧ i = ntS S) ∨ (k = 6 ∧ i = ntS S) ∨ k = 95) → M38.1 k i = M.1 k i ∧ M38.2.1 k i = M.2.1 k i := fun k i h1 h2 => by
        obtain ⟨x1, x2, -, -⟩ := f38 k i h2
        obtain ⟨y1, y2, -, -⟩ := zM_off M (k := 95) (i := 0) (k' := k) (i' := i) (by omega)
        exact ⟨x1.trans y1, x2.trans y2⟩
      have e0 : M38.1 0 0 5 = (ntS S : Int) := by rw [(z 0 0 (by omega) (by omega)).1, g5]
      refine w_aload_n C dX6_addStyle_42 rfl ?_
      refine w_dup C dX6_addStyle_43 rfl ?_
      refine g_X6_273 C dX6_addStyle_44 (by first | assumption | exact Nat.zero_lt_one | exact Nat.zero_lt_two | exact Nat.one_lt_two) ?_
      refine w_iconst C dX6_addStyle_47 ?_
      refine w_iadd C dX6_addStyle_48 ?_
      refine p_X6_273 C dX6_addStyle_49 (by first | assumption | exact Nat.zero_lt_one | exact Nat.zero_lt_two | exact Nat.one_lt_two) ?_
      refine w_iload_n C dX6_addStyle_52 rfl ?_
      refine Wm.eqC (cn' := cnt ns (ntS S + 1)) (by
        funext k
        by_cases h9 : k = 6 ∨ k = 32
        · rcases h9 with rfl | rfl <;> rfl
        · rw [cnt_st (by omega)]
          by_cases h95 : k = 95
          · subst h95
            rfl
          · rw [if_neg (by omega), if_neg h95]
            exact up1_ne h95) ?_
      have eo : oAddStyle S P nx = (0, (ntS S : Int), up3 S 15 0 0 (ntS S + 1), P, nx) := by unfold oAddStyle; rw [if_neg (by omega)]
      refine w_iretN C hr dX6_addStyle_53 rfl (⟨⟨by rw [eo], by rw [eo], ?_⟩, by rw [eo]; rfl, fun k' i' h => ?_⟩) (by first | decide | omega) (by first | decide | omega)
      · rw [eo]
        refine hR.addSt hI hZ ?_ ?_ ?_ ?_ ?_ ?_
        · refine Fr.uI (Fr.uR ((Fr.rf.zM (by omega)).tr (f38.mono (fun k i h => by omega))) (by omega)) (by omega)
        · intro t
          rw [uI_get, if_neg (by omega)]
          exact congrFun u1 t
        · intro t
          rw [uI_get, if_neg (by omega)]
          exact congrFun u2 t
        · intro t ht
          rw [uI_get, if_neg (by omega)]
          exact congrFun (z 0 0 (by omega) (by omega)).1 t
        · rw [uI_get, if_pos ⟨rfl, rfl, rfl⟩]
          show M38.1 0 0 5 + 1 = _
          omega
        · intro t
          show (if 11 = 11 ∧ 0 = 0 ∧ t = (ntS S : Int).toNat then some (ntS S) else M38.2.1 11 0 t) = _
          rw [(z 11 0 (by omega) (by omega)).2]
          simp
      · simp at h
        rw [b38 _ _ (by simp; omega), hag34 _ _ (by omega)]
    · refine w_throwWG C tk_66_70 ts_276 dX6_addStyle_18 dX6_addStyle_21 dX6_addStyle_22 dX6_addStyle_25 dX6_addStyle_28 ⟨by decide, by decide, by decide, by decide⟩ (Nat.le_of_ble_eq_true rfl) (T1 (by omega)) (by decide) (by decide)
