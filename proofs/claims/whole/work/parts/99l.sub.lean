/-! the law's calls: the callee sees its side alone -/
theorem EV.narrow {D : va_G} {cA : Nat → ClassId} {b0 b1 : Nat → Prop} {U : State} (h : EV D cA b0 U) (hb : ∀ q, b1 q → b0 q) (h4 : ∀ q, U.heap.size ≤ q → b1 q) : EV D cA b1 U := by
  obtain ⟨h1, h2, h3, -, h5⟩ := h
  exact ⟨h1, h2.narrow hb, h3.narrow hb, h4, h5⟩
def MOKH (y : MethodName) (bytes : ByteArray) (maxL : Nat) (ret : Option FieldType) (hh : List (Nat × Nat × Nat × Nat)) (n : Nat) : Prop :=
  Cond.initialized y.cls ∈ GW ∧ Cond.codeWith y bytes maxL ret hh ∈ GW ∧ (y.cls ≠ "java/lang/invoke/MethodHandle" ∧ y.cls ≠ "java/lang/invoke/VarHandle") ∧ (parseMethodDescriptor y.desc).map (fun d => d.parameters.length) = some n
theorem ws_goodH {y : MethodName} {bytes : ByteArray} {maxL : Nat} {ret : Option FieldType} {hh : List (Nat × Nat × Nat × Nat)} (hm : Cond.codeWith y bytes maxL ret hh ∈ GW) {a0 : Array Value} {s0 : State} (hts : ∀ w ∈ GW, w.before a0 s0 = true) : ∀ w ∈ Cond.codeWith y bytes maxL ret hh :: GW, ∀ (a' : Array Value) (U : State), s0.WarmedH U.vm → w.before a' U = true := by
  intro w hw a' U hW
  have hg : w ∈ GW := by
    rcases List.mem_cons.mp hw with q | q
    · rw [q]; exact hm
    · exact q
  exact word_at hW (good_of_word (GW_good hg)) (hts w hg)
theorem adJ_id (sd : Nat → Bool) (ad : Ads) : adJ sd ad ad = ad := by
  funext k i
  unfold adJ
  split <;> rfl
theorem cnJ_id (sd : Nat → Bool) (cn : Nat → Nat) : cnJ sd (cnS sd cn) cn = cn := by
  funext k
  unfold cnJ cnS
  by_cases h : sd k = true
  · rw [if_pos h, if_pos h]
  · rw [if_neg h]
theorem cnS_off {sd : Nat → Bool} {cn : Nat → Nat} {k : Nat} (h : sd k = false) : cnS sd cn k = 0 := by
  unfold cnS
  rw [h]
  rfl
theorem bS_in {D : va_G} {cA : Nat → ClassId} {b0 : Nat → Prop} {ad : Ads} {cn : Nat → Nat} {M : Mem} {H : Heap} {sd : Nat → Bool} (hw : HW D cA b0 ad cn M H) (hb : ∀ q, H.size ≤ q → b0 q) : ∀ q, bS sd ad cn H.size q → b0 q := fun q h => by
  rcases h with ⟨k, i, -, g, rfl⟩ | h
  · exact hw.2.2.1 k i g
  · exact hb q h
section Rows
variable {p : Program} {l : Launch} {e : Env} {R : Room} {s : State} {m : MethodId} {args : Array Value} {below : List Frame} {meth : Method} {c : Code} {nL : Nat} {D : va_G} {cA : Nat → ClassId} {b0 : Nat → Prop} {cells slots : Nat} {Q : State → Prop} {lv : Lv} {st : List AV} {ad : Ads} {cn : Nat → Nat} {M : Mem} {cc : ByteArray} {own : String} {tab : List ExceptionTableEntry} {pc pc' : Nat}
theorem my_callSub {sd : Nat → Bool} {P : PN} {mc ms : Nat} {ls : Array Slot} {st0 rest : List Value} {a : Array Value} {H : Heap} {locs : List Loc}
    (hr : vx_Run p l e R s m args below meth c H locs cells slots mc ms (F0 m pc ls st0) rest (mQN D cA (bS sd ad cn H.size) P a) (fun _ _ _ => False) (bS sd ad cn H.size)) (hw : HW D cA b0 ad cn M H) (hS : va_S b0 s.heap H locs) (hb : ∀ q, H.size ≤ q → b0 q)
    (kk : ∀ (r : Option AV) (ad' : Ads) (cn' : Nat → Nat) (M' : Mem) (H1 : Heap) (locs1 : List Loc), P r ad' cn' M' → HW D cA (bS sd ad cn H.size) ad' cn' M' H1 → (∀ q : Nat, q < H.size → ¬ bS sd ad cn H.size q → H1[q]? = H[q]?) → va_S b0 s.heap H1 locs1 → W p l e R s m args below meth c H1 locs1 (cells + mc) (slots + ms) Q (F0 m (pc + 3) ls ((r.map (tv ad')).toList ++ rest))) :
    W p l e R s m args below meth c H locs cells slots Q (F0 m pc ls st0) := by
  intro T hT X0
  rcases hr T hT X0 with ⟨v, st₀, t, T', L, h0, X', hL, e1, e2, ⟨r, ad', cn', M', hv, hp, hb9, hF⟩, st1⟩ | ⟨q, st₀, t, T', L, E, ce, h0, X', hL, e1, e2, hx, -⟩
  · cases hv
    obtain ⟨k1, k2, k3⟩ := vx_keep h0 e1 hS (fun q _ h => bS_in hw hb q h) (fun q h => bS_in hw hb q h) hL hF
    obtain ⟨t2, a1, b1⟩ := kk r ad' cn' M' T'.heap (locs ++ L) hp (by rw [e1]; exact hb9) k2 k3 T' rfl X'
    exact ⟨t2, st1 t2 a1, b1⟩
  · exact hx.elim
theorem run_monoN {b1 : Nat → Prop} {mc ms : Nat} {g : JFrame} {rest : List Value} {Q1 Q2 : State → Outcome → State → Prop} {X1 X2 : String → State → State → Prop} {H : Heap} {locs : List Loc} (h : vx_Run p l e R s m args below meth c H locs cells slots mc ms g rest Q1 X1 b1) (hQ : ∀ st o t, Q1 st o t → Q2 st o t) (hX : ∀ E st t, X1 E st t → X2 E st t) : vx_Run p l e R s m args below meth c H locs cells slots mc ms g rest Q2 X2 b1 := by
  intro T hT X0
  rcases h T hT X0 with ⟨v, st₀, t, T', L, h0, X', hL, e1, e2, hq, st1⟩ | ⟨q, st₀, t, T', L, E, ce, h0, X', hL, e1, e2, hx, h9⟩
  · exact Or.inl ⟨v, st₀, t, T', L, h0, X', hL, e1, e2, hQ _ _ _ hq, st1⟩
  · exact Or.inr ⟨q, st₀, t, T', L, E, ce, h0, X', hL, e1, e2, hX _ _ _ hx, h9⟩
theorem mX_no {b1 : Nat → Prop} {cn1 : Nat → Nat} : ∀ (E : String) (st t : State), mX D cA b1 ad cn1 (fun _ _ => False) E st t → False := fun _ _ _ h => by
  obtain ⟨_, h, -⟩ := h
  exact h
/-- of a wrapper -/
theorem w_subS (sd : Nat → Bool) (C : Cx l p s m args meth c cc own nL D cA b0 tab) {y : MethodName} {bytes : ByteArray} {maxL n d mc ms idx : Nat} {ret : Option FieldType} {hh : List (Nat × Nat × Nat × Nat)} {P : PT} {as stk : List AV} {cnC : Nat → Nat} (hd : DI cc pc (.invokestatic idx) 3 pc') (hA : Apart sd cn) (hcn : cnS sd cn = cnC) (hcon : ∀ b1, ConH l b1 y bytes maxL ret hh d mc ms as ad cnC M P) (hm : MOKH y bytes maxL ret hh n) (hv : Cond.static y ∈ GW) (hk : Cond.methodLink own idx y ∈ GW)
    (hst : stk = as.reverse ++ st) (hn : as.length = n) (hroom : d + 1 ≤ R.frames ∧ 8 + (maxL + 11) + 40 * d ≤ R.locals ∧ cells + mc ≤ R.cells ∧ slots + ms ≤ R.slots) (hwt : (st.map fun v => if cat2 v then 2 else 1).sum ≤ 8)
    (kk : ∀ (r : Option AV) (M' : Mem), P r M' → Wm p l e R s m args below meth c nL D cA b0 (cells + mc) (slots + ms) Q pc' lv (r.toList ++ st) ad cn (mJ sd M' M)) : Wm p l e R s m args below meth c nL D cA b0 cells slots Q pc lv stk ad cn M := by
  subst hcn
  intro H locs ls hw hS hl
  have EVv := C.2.2.2.2.2.2.2.1
  have hb : ∀ q, H.size ≤ q → b0 q := fun q h => EVv.2.2.2.1 q (Nat.le_trans hS.1 h)
  have hN : ∀ sig, parseMethodDescriptor y.desc = some sig → n = sig.parameters.length := fun sig h => by
    have h2 := hm.2.2.2
    rw [h] at h2
    exact (Option.some.inj h2).symm
  have hrun := vx_runSX (e := e) (below := below) (meth := meth) (n := n) (As := as.map (tv ad)) (rest := st.map (tv ad)) (H := H) (locs := locs) (cells := cells) (slots := slots) (R := R) (g := F0 m pc ls (stk.map (tv ad))) ⟨C.1, C.2.1, C.2.2.1, C.2.2.2.1, C.2.2.2.2.1⟩ (hcon (bS sd ad cn H.size) D cA) ⟨⟨rfl, rfl, hroom.1, hroom.2.1, ws_goodH hm.2.1 C.2.2.2.2.1, List.mem_cons_self⟩, C.2.2.2.2.1 _ hm.2.1, C.2.2.2.2.1 _ hm.1, hm.2.2.1, hN, C.2.2.2.2.1 _ hk, C.2.2.2.2.1 _ hv⟩ ⟨con_blind, fun U hU hW => ⟨rfl, by rw [hU]; exact hw.part sd hA, (EV.warm hW (by rw [hU]; exact hS) EVv).narrow (bS_in hw hb) (fun q h => Or.inr (by rw [← hU]; exact h))⟩⟩ rfl (by rw [List.length_map]; exact hn) hl.1 (by rw [hst]; simp [List.map_append, List.map_reverse]) (lv_room (by rw [stk_cat]; exact hwt)) hd.1 ⟨hroom.2.2.1, hroom.2.2.2⟩
  refine my_callSub (a := #[]) (P := fun r ad' cn' M' => ad' = ad ∧ cn' = cnS sd cn ∧ P r M') (run_monoN hrun (fun st o t h => ?_) mX_no) hw hS hb (fun r ad' cn' M' H1 locs1 hp hw1 hfr hS1 => ?_)
  · obtain ⟨r, M1, h1, h2, h3, h4⟩ := h
    exact ⟨r, ad, cnS sd cn, M1, h1, ⟨rfl, rfl, h2⟩, h3, h4⟩
  · obtain ⟨rfl, rfl, hp⟩ := hp
    have hj := hw.join sd hA hw1 (fun k h => cnS_off h) hfr hb
    rw [adJ_id, cnJ_id] at hj
    have k9 := kk r M' hp H1 locs1 ls hj hS1 hl
    rw [← hd.2] at k9
    have e9 : (r.toList ++ st).map (tv ad') = (r.map (tv ad')).toList ++ st.map (tv ad') := by cases r <;> rfl
    rw [e9] at k9
    exact k9
/-- of a method without handlers, on an object -/
theorem w_subV (sd : Nat → Bool) (C : Cx l p s m args meth c cc own nL D cA b0 tab) {y : MethodName} {bytes : ByteArray} {maxL n d mc ms idx k i ci N : Nat} {ret : Option FieldType} {P : PT} {as stk : List AV} {fs : List Value} {T : u_T} {cnC : Nat → Nat} (hd : DI cc pc (.invokevirtual idx) 3 pc') (hA : Apart sd cn) (hcn : cnS sd cn = cnC) (hcon : ∀ b1, Con l b1 y bytes maxL ret d mc ms (aO k i :: as) ad cnC M P (fun _ _ => False)) (hm : MOK y bytes maxL ret n) (hv : VOK y) (hk : Cond.methodLink own idx y ∈ GW) (hin : inD cn k i) (he : cM cA ad M k i = .inr (ci, fs)) (hc : clT[ci]? = some (y.cls, T, N))
    (hst : stk = as.reverse ++ aO k i :: st) (hn : as.length = n) (hroom : d + 1 ≤ R.frames ∧ 8 + (maxL + 11) + 40 * d ≤ R.locals ∧ cells + mc ≤ R.cells ∧ slots + ms ≤ R.slots) (hwt : (st.map fun v => if cat2 v then 2 else 1).sum ≤ 8)
    (kk : ∀ (r : Option AV) (M' : Mem), P r M' → Wm p l e R s m args below meth c nL D cA b0 (cells + mc) (slots + ms) Q pc' lv (r.toList ++ st) ad cn (mJ sd M' M)) : Wm p l e R s m args below meth c nL D cA b0 cells slots Q pc lv stk ad cn M := by
  subst hcn
  intro H locs ls hw hS hl
  have EVv := C.2.2.2.2.2.2.2.1
  have hb : ∀ q, H.size ≤ q → b0 q := fun q h => EVv.2.2.2.1 q (Nat.le_trans hS.1 h)
  obtain ⟨q0, hq⟩ := wsM_get (hb := hw.2.2.2.1) (cA := cA) (ad := ad) (M := M) hin
  have hrecv := va_recv EVv.1 (HW_P hw) hc (cM_of hq he)
  have hN : ∀ sig, parseMethodDescriptor y.desc = some sig → n = sig.parameters.length := fun sig h => by
    have h2 := hm.2.2.2
    rw [h] at h2
    exact (Option.some.inj h2).symm
  have hrun := vx_runV (e := e) (below := below) (meth := meth) (C := y.cls) (n := n) (As := as.map (tv ad)) (b := ad k i) (rest := st.map (tv ad)) (H := H) (locs := locs) (cells := cells) (slots := slots) (R := R) (g := F0 m pc ls (stk.map (tv ad))) ⟨C.1, C.2.1, C.2.2.1, C.2.2.2.1, C.2.2.2.2.1⟩ (hcon (bS sd ad cn H.size) D cA) ⟨⟨rfl, rfl, hroom.1, hroom.2.1, ws_good hm.2.1 C.2.2.2.2.1, List.mem_cons_self, C.2.2.2.2.1 _ hm.2.1, C.2.2.2.2.1 _ hm.1, hm.2.2.1, hN, C.2.2.2.2.1 _ hk⟩, C.2.2.2.2.1 _ hv.1, C.2.2.2.2.1 _ hv.2⟩ ⟨con_blind, hrecv, fun U hU hW => ⟨rfl, by rw [hU]; exact hw.part sd hA, (EV.warm hW (by rw [hU]; exact hS) EVv).narrow (bS_in hw hb) (fun q h => Or.inr (by rw [← hU]; exact h))⟩⟩ rfl (by rw [List.length_map]; exact hn) hl.1 (by rw [hst]; simp [List.map_append, List.map_reverse]; rfl) (lv_room (by rw [stk_cat]; exact hwt)) hd.1 ⟨hroom.2.2.1, hroom.2.2.2⟩
  refine my_callSub (a := #[]) (P := fun r ad' cn' M' => ad' = ad ∧ cn' = cnS sd cn ∧ P r M') (run_monoN hrun (fun st o t h => ?_) mX_no) hw hS hb (fun r ad' cn' M' H1 locs1 hp hw1 hfr hS1 => ?_)
  · obtain ⟨r, M1, h1, h2, h3, h4⟩ := h
    exact ⟨r, ad, cnS sd cn, M1, h1, ⟨rfl, rfl, h2⟩, h3, h4⟩
  · obtain ⟨rfl, rfl, hp⟩ := hp
    have hj := hw.join sd hA hw1 (fun k h => cnS_off h) hfr hb
    rw [adJ_id, cnJ_id] at hj
    have k9 := kk r M' hp H1 locs1 ls hj hS1 hl
    rw [← hd.2] at k9
    have e9 : (r.toList ++ st).map (tv ad') = (r.map (tv ad')).toList ++ st.map (tv ad') := by cases r <;> rfl
    rw [e9] at k9
    exact k9
/-- of a wrapper whose callee makes cells -/
theorem w_subSN (sd : Nat → Bool) (C : Cx l p s m args meth c cc own nL D cA b0 tab) {y : MethodName} {bytes : ByteArray} {maxL n d mc ms idx : Nat} {ret : Option FieldType} {hh : List (Nat × Nat × Nat × Nat)} {P : PN} {ks : List Nat} {as stk : List AV} {cnC : Nat → Nat} (hd : DI cc pc (.invokestatic idx) 3 pc') (hA : Apart sd cn) (hcn : cnS sd cn = cnC) (hcon : ∀ b1, ConHN l b1 y bytes maxL ret hh d mc ms as ad cnC M P) (hm : MOKH y bytes maxL ret hh n) (hv : Cond.static y ∈ GW) (hk : Cond.methodLink own idx y ∈ GW)
    (hst : stk = as.reverse ++ st) (hn : as.length = n) (hroom : d + 1 ≤ R.frames ∧ 8 + (maxL + 11) + 40 * d ≤ R.locals ∧ cells + mc ≤ R.cells ∧ slots + ms ≤ R.slots) (hwt : (st.map fun v => if cat2 v then 2 else 1).sum ≤ 8) (hnk : nkl ks lv st = true) (hP : ∀ r' ad' cn' M', P r' ad' cn' M' → (∀ k' i', k' ∉ ks → ad' k' i' = ad k' i') ∧ ∀ k, sd k = false → cn' k = 0)
    (kk : ∀ (r : Option AV) (ad' : Ads) (cn' : Nat → Nat) (M' : Mem), P r ad' cn' M' → (∀ z : Int, r = some (aI z) → Wm p l e R s m args below meth c nL D cA b0 (cells + mc) (slots + ms) Q pc' lv (aI z :: st) (adJ sd ad' ad) (cnJ sd cn' cn) (mJ sd M' M)) ∧ ∃ z : Int, r = some (aI z)) : Wm p l e R s m args below meth c nL D cA b0 cells slots Q pc lv stk ad cn M := by
  subst hcn
  intro H locs ls hw hS hl
  have EVv := C.2.2.2.2.2.2.2.1
  have hb : ∀ q, H.size ≤ q → b0 q := fun q h => EVv.2.2.2.1 q (Nat.le_trans hS.1 h)
  have hN : ∀ sig, parseMethodDescriptor y.desc = some sig → n = sig.parameters.length := fun sig h => by
    have h2 := hm.2.2.2
    rw [h] at h2
    exact (Option.some.inj h2).symm
  have hrun := vx_runSX (e := e) (below := below) (meth := meth) (n := n) (As := as.map (tv ad)) (rest := st.map (tv ad)) (H := H) (locs := locs) (cells := cells) (slots := slots) (R := R) (g := F0 m pc ls (stk.map (tv ad))) ⟨C.1, C.2.1, C.2.2.1, C.2.2.2.1, C.2.2.2.2.1⟩ (hcon (bS sd ad cn H.size) D cA) ⟨⟨rfl, rfl, hroom.1, hroom.2.1, ws_goodH hm.2.1 C.2.2.2.2.1, List.mem_cons_self⟩, C.2.2.2.2.1 _ hm.2.1, C.2.2.2.2.1 _ hm.1, hm.2.2.1, hN, C.2.2.2.2.1 _ hk, C.2.2.2.2.1 _ hv⟩ ⟨con_blind, fun U hU hW => ⟨rfl, by rw [hU]; exact hw.part sd hA, (EV.warm hW (by rw [hU]; exact hS) EVv).narrow (bS_in hw hb) (fun q h => Or.inr (by rw [← hU]; exact h))⟩⟩ rfl (by rw [List.length_map]; exact hn) hl.1 (by rw [hst]; simp [List.map_append, List.map_reverse]) (lv_room (by rw [stk_cat]; exact hwt)) hd.1 ⟨hroom.2.2.1, hroom.2.2.2⟩
  refine my_callSub (P := P) (run_monoN hrun (fun st o t h => h) mX_no) hw hS hb (fun r ad' cn' M' H1 locs1 hp hw1 hfr hS1 => ?_)
  obtain ⟨g1, g2⟩ := hP r ad' cn' M' hp
  have hj := hw.join sd hA hw1 g2 hfr hb
  obtain ⟨kz, z, rfl⟩ := kk r ad' cn' M' hp
  have hag : ∀ k' i', k' ∉ ks → adJ sd ad' ad k' i' = ad k' i' := fun k' i' h => by
    unfold adJ
    split
    · exact g1 k' i' h
    · rfl
  obtain ⟨a1, a2⟩ := nkl_ag hnk hag
  have k9 := kz z rfl H1 locs1 ls hj hS1 (by rw [a1]; exact hl)
  rw [← hd.2, List.map_cons, a2] at k9
  exact k9
end Rows
