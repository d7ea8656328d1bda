/-! the constructor of the model -/
theorem up1_ne {α : Type} {f : Nat → α} {s k : Nat} {v : α} (h : k ≠ s) : up1 f s v k = f k := if_neg h
theorem cntM_out {k : Nat} (h : ¬ (40 ≤ k ∧ k ≤ 70)) : cntM k = 0 := by
  unfold cntM
  split <;> first | rfl | (exfalso; omega)
def cn97 : Nat → Nat := fun k => if k = 97 then 1 else 0
def S0 : Sg := fun a _ _ => if a = 0 then 12 else 0
theorem c_X7_init {l : Launch} (hl : l.stackTraces = false) {b0 : Nat → Prop} {ad : Ads} {cn : Nat → Nat} {M : Mem} (hcn : cn = cn97) (hz : M.1 97 0 = fun _ => 0) (hzl : M.2.2.1 97 0 = fun _ => 0) : ConN l b0 yX7_init cX7_init 2 none 2 30 2290 [aO 97 0] ad cn M (fun r ad' cn' M' => r = none ∧ ad' 40 0 = ad 97 0 ∧ (∀ k' i', k' < 40 ∨ 70 < k' → ad' k' i' = ad k' i') ∧ cn' = cntM ∧ RepMo S0 [] 0 M') (fun _ _ => False) := by
  subst hcn
  refine ConN.of hl pl_X7 (Nat.le_of_ble_eq_true rfl) ?_
  intro D cA p e s m args below meth c C hr hnam
  have hnam : meth.name = "<init>" := hnam
  refine w_aload_n C dX7_init_0 rfl ?_
  refine w_objInit C dX7_init_1 lo_X7_1 mObjI mObjC ⟨by decide, by decide⟩ (Nat.le_of_ble_eq_true rfl) ?_
  refine w_aload_n C dX7_init_4 rfl ?_
  refine w_bipush (v := 12) C dX7_init_5 rfl ?_
  refine rp_X7_7 C dX7_init_7 (by first | exact Nat.zero_lt_one | assumption | (simp [inD, up1, cnC, Nat.zero_lt_one]; done) | (simp [inD, up1, cnC, Nat.zero_lt_one]; omega)) ?_
  refine w_aload_n C dX7_init_10 rfl ?_
  refine w_sipush (v := 720) C dX7_init_11 rfl ?_
  refine w_newZ (N := 720) (i := 0) C (by first | rfl | assumption | (simp [up1, Nat.zero_lt_one]; done)) dX7_init_14 mA_boolean ZA_41 (by decide) rfl rfl (by decide) ⟨by first | decide | (show _ ≤ _; simp only [rmd]; omega), by first | decide | (show _ ≤ _; simp only [rmd]; omega)⟩ ?_
  intro ad14 hag14
  refine rp_X7_13 C hnam dX7_init_16 (by first | exact Nat.zero_lt_one | assumption | (simp [inD, up1, cnC, Nat.zero_lt_one]; done) | (simp [inD, up1, cnC, Nat.zero_lt_one]; omega)) (by first | exact Nat.zero_lt_one | assumption | (simp [inD, up1, cnC, Nat.zero_lt_one]; done) | (simp [inD, up1, cnC, Nat.zero_lt_one]; omega)) ?_
  refine w_aload_n C dX7_init_19 rfl ?_
  refine w_bipush (v := 8) C dX7_init_20 rfl ?_
  refine w_newC (N := 8) (i := 0) C (by first | rfl | assumption | (simp [up1, Nat.zero_lt_one]; done)) dX7_init_22 mA_char CA_47 (by decide) rfl rfl (by decide) ⟨by first | decide | (show _ ≤ _; simp only [rmd]; omega), by first | decide | (show _ ≤ _; simp only [rmd]; omega)⟩ ?_
  intro ad22 hag22
  refine rp_X7_17 C hnam dX7_init_24 (by first | exact Nat.zero_lt_one | assumption | (simp [inD, up1, cnC, Nat.zero_lt_one]; done) | (simp [inD, up1, cnC, Nat.zero_lt_one]; omega)) (by first | exact Nat.zero_lt_one | assumption | (simp [inD, up1, cnC, Nat.zero_lt_one]; done) | (simp [inD, up1, cnC, Nat.zero_lt_one]; omega)) ?_
  refine w_aload_n C dX7_init_27 rfl ?_
  refine w_bipush (v := 8) C dX7_init_28 rfl ?_
  refine w_newZ (N := 8) (i := 0) C (by first | rfl | assumption | (simp [up1, Nat.zero_lt_one]; done)) dX7_init_30 mA_boolean ZA_42 (by decide) rfl rfl (by decide) ⟨by first | decide | (show _ ≤ _; simp only [rmd]; omega), by first | decide | (show _ ≤ _; simp only [rmd]; omega)⟩ ?_
  intro ad30 hag30
  refine rp_X7_21 C hnam dX7_init_32 (by first | exact Nat.zero_lt_one | assumption | (simp [inD, up1, cnC, Nat.zero_lt_one]; done) | (simp [inD, up1, cnC, Nat.zero_lt_one]; omega)) (by first | exact Nat.zero_lt_one | assumption | (simp [inD, up1, cnC, Nat.zero_lt_one]; done) | (simp [inD, up1, cnC, Nat.zero_lt_one]; omega)) ?_
  refine w_aload_n C dX7_init_35 rfl ?_
  refine w_sipush (v := 200) C dX7_init_36 rfl ?_
  refine w_newZ (N := 200) (i := 0) C (by first | rfl | assumption | (simp [up1, Nat.zero_lt_one]; done)) dX7_init_39 mA_boolean ZA_43 (by decide) rfl rfl (by decide) ⟨by first | decide | (show _ ≤ _; simp only [rmd]; omega), by first | decide | (show _ ≤ _; simp only [rmd]; omega)⟩ ?_
  intro ad39 hag39
  refine rp_X7_24 C hnam dX7_init_41 (by first | exact Nat.zero_lt_one | assumption | (simp [inD, up1, cnC, Nat.zero_lt_one]; done) | (simp [inD, up1, cnC, Nat.zero_lt_one]; omega)) (by first | exact Nat.zero_lt_one | assumption | (simp [inD, up1, cnC, Nat.zero_lt_one]; done) | (simp [inD, up1, cnC, Nat.zero_lt_one]; omega)) ?_
  refine w_aload_n C dX7_init_44 rfl ?_
  refine w_bipush (v := 8) C dX7_init_45 rfl ?_
  refine w_newI (N := 8) (i := 0) C (by first | rfl | assumption | (simp [up1, Nat.zero_lt_one]; done)) dX7_init_47 mA_int IA_48 (by decide) rfl rfl (by decide) ⟨by first | decide | (show _ ≤ _; simp only [rmd]; omega), by first | decide | (show _ ≤ _; simp only [rmd]; omega)⟩ ?_
  intro ad47 hag47
  refine rp_X7_27 C hnam dX7_init_49 (by first | exact Nat.zero_lt_one | assumption | (simp [inD, up1, cnC, Nat.zero_lt_one]; done) | (simp [inD, up1, cnC, Nat.zero_lt_one]; omega)) (by first | exact Nat.zero_lt_one | assumption | (simp [inD, up1, cnC, Nat.zero_lt_one]; done) | (simp [inD, up1, cnC, Nat.zero_lt_one]; omega)) ?_
  refine w_aload_n C dX7_init_52 rfl ?_
  refine w_bipush (v := 8) C dX7_init_53 rfl ?_
  refine w_newI (N := 8) (i := 0) C (by first | rfl | assumption | (simp [up1, Nat.zero_lt_one]; done)) dX7_init_55 mA_int IA_49 (by decide) rfl rfl (by decide) ⟨by first | decide | (show _ ≤ _; simp only [rmd]; omega), by first | decide | (show _ ≤ _; simp only [rmd]; omega)⟩ ?_
  intro ad55 hag55
  refine rp_X7_31 C hnam dX7_init_57 (by first | exact Nat.zero_lt_one | assumption | (simp [inD, up1, cnC, Nat.zero_lt_one]; done) | (simp [inD, up1, cnC, Nat.zero_lt_one]; omega)) (by first | exact Nat.zero_lt_one | assumption | (simp [inD, up1, cnC, Nat.zero_lt_one]; done) | (simp [inD, up1, cnC, Nat.zero_lt_one]; omega)) ?_
  refine w_aload_n C dX7_init_60 rfl ?_
  refine w_bipush (v := 8) C dX7_init_61 rfl ?_
  refine w_newI (N := 8) (i := 0) C (by first | rfl | assumption | (simp [up1, Nat.zero_lt_one]; done)) dX7_init_63 mA_int IA_50 (by decide) rfl rfl (by decide) ⟨by first | decide | (show _ ≤ _; simp only [rmd]; omega), by first | decide | (show _ ≤ _; simp only [rmd]; omega)⟩ ?_
  intro ad63 hag63
  refine rp_X7_34 C hnam dX7_init_65 (by first | exact Nat.zero_lt_one | assumption | (simp [inD, up1, cnC, Nat.zero_lt_one]; done) | (simp [inD, up1, cnC, Nat.zero_lt_one]; omega)) (by first | exact Nat.zero_lt_one | assumption | (simp [inD, up1, cnC, Nat.zero_lt_one]; done) | (simp [inD, up1, cnC, Nat.zero_lt_one]; omega)) ?_
  refine w_aload_n C dX7_init_68 rfl ?_
  refine w_bipush (v := 8) C dX7_init_69 rfl ?_
  refine w_newI (N := 8) (i := 0) C (by first | rfl | assumption | (simp [up1, Nat.zero_lt_one]; done)) dX7_init_71 mA_int IA_51 (by decide) rfl rfl (by decide) ⟨by first | decide | (show _ ≤ _; simp only [rmd]; omega), by first | decide | (show _ ≤ _; simp only [rmd]; omega)⟩ ?_
  intro ad71 hag71
  refine rp_X7_37 C hnam dX7_init_73 (by first | exact Nat.zero_lt_one | assumption | (simp [inD, up1, cnC, Nat.zero_lt_one]; done) | (simp [inD, up1, cnC, Nat.zero_lt_one]; omega)) (by first | exact Nat.zero_lt_one | assumption | (simp [inD, up1, cnC, Nat.zero_lt_one]; done) | (simp [inD, up1, cnC, Nat.zero_lt_one]; omega)) ?_
  refine w_aload_n C dX7_init_76 rfl ?_
  refine w_bipush (v := 8) C dX7_init_77 rfl ?_
  refine w_newZ (N := 8) (i := 0) C (by first | rfl | assumption | (simp [up1, Nat.zero_lt_one]; done)) dX7_init_79 mA_boolean ZA_44 (by decide) rfl rfl (by decide) ⟨by first | decide | (show _ ≤ _; simp only [rmd]; omega), by first | decide | (show _ ≤ _; simp only [rmd]; omega)⟩ ?_
  intro ad79 hag79
  refine rp_X7_40 C hnam dX7_init_81 (by first | exact Nat.zero_lt_one | assumption | (simp [inD, up1, cnC, Nat.zero_lt_one]; done) | (simp [inD, up1, cnC, Nat.zero_lt_one]; omega)) (by first | exact Nat.zero_lt_one | assumption | (simp [inD, up1, cnC, Nat.zero_lt_one]; done) | (simp [inD, up1, cnC, Nat.zero_lt_one]; omega)) ?_
  refine w_aload_n C dX7_init_84 rfl ?_
  refine w_bipush (v := 16) C dX7_init_85 rfl ?_
  refine w_newI (N := 16) (i := 0) C (by first | rfl | assumption | (simp [up1, Nat.zero_lt_one]; done)) dX7_init_87 mA_int IA_52 (by decide) rfl rfl (by decide) ⟨by first | decide | (show _ ≤ _; simp only [rmd]; omega), by first | decide | (show _ ≤ _; simp only [rmd]; omega)⟩ ?_
  intro ad87 hag87
  refine rp_X7_43 C hnam dX7_init_89 (by first | exact Nat.zero_lt_one | assumption | (simp [inD, up1, cnC, Nat.zero_lt_one]; done) | (simp [inD, up1, cnC, Nat.zero_lt_one]; omega)) (by first | exact Nat.zero_lt_one | assumption | (simp [inD, up1, cnC, Nat.zero_lt_one]; done) | (simp [inD, up1, cnC, Nat.zero_lt_one]; omega)) ?_
  refine w_aload_n C dX7_init_92 rfl ?_
  refine w_bipush (v := 40) C dX7_init_93 rfl ?_
  refine w_newI (N := 40) (i := 0) C (by first | rfl | assumption | (simp [up1, Nat.zero_lt_one]; done)) dX7_init_95 mA_int IA_53 (by decide) rfl rfl (by decide) ⟨by first | decide | (show _ ≤ _; simp only [rmd]; omega), by first | decide | (show _ ≤ _; simp only [rmd]; omega)⟩ ?_
  intro ad95 hag95
  refine rp_X7_46 C hnam dX7_init_97 (by first | exact Nat.zero_lt_one | assumption | (simp [inD, up1, cnC, Nat.zero_lt_one]; done) | (simp [inD, up1, cnC, Nat.zero_lt_one]; omega)) (by first | exact Nat.zero_lt_one | assumption | (simp [inD, up1, cnC, Nat.zero_lt_one]; done) | (simp [inD, up1, cnC, Nat.zero_lt_one]; omega)) ?_
  refine w_aload_n C dX7_init_100 rfl ?_
  refine w_bipush (v := 40) C dX7_init_101 rfl ?_
  refine w_newI (N := 40) (i := 0) C (by first | rfl | assumption | (simp [up1, Nat.zero_lt_one]; done)) dX7_init_103 mA_int IA_54 (by decide) rfl rfl (by decide) ⟨by first | decide | (show _ ≤ _; simp only [rmd]; omega), by first | decide | (show _ ≤ _; simp only [rmd]; omega)⟩ ?_
  intro ad103 hag103
  refine rp_X7_49 C hnam dX7_init_105 (by first | exact Nat.zero_lt_one | assumption | (simp [inD, up1, cnC, Nat.zero_lt_one]; done) | (simp [inD, up1, cnC, Nat.zero_lt_one]; omega)) (by first | exact Nat.zero_lt_one | assumption | (simp [inD, up1, cnC, Nat.zero_lt_one]; done) | (simp [inD, up1, cnC, Nat.zero_lt_one]; omega)) ?_
  refine w_aload_n C dX7_init_108 rfl ?_
  refine w_bipush (v := 40) C dX7_init_109 rfl ?_
  refine w_newI (N := 40) (i := 0) C (by first | rfl | assumption | (simp [up1, Nat.zero_lt_one]; done)) dX7_init_111 mA_int IA_55 (by decide) rfl rfl (by decide) ⟨by first | decide | (show _ ≤ _; simp only [rmd]; omega), by first | decide | (show _ ≤ _; simp only [rmd]; omega)⟩ ?_
  intro ad111 hag111
  refine rp_X7_52 C hnam dX7_init_113 (by first | exact Nat.zero_lt_one | assumption | (simp [inD, up1, cnC, Nat.zero_lt_one]; done) | (simp [inD, up1, cnC, Nat.zero_lt_one]; omega)) (by first | exact Nat.zero_lt_one | assumption | (simp [inD, up1, cnC, Nat.zero_lt_one]; done) | (simp [inD, up1, cnC, Nat.zero_lt_one]; omega)) ?_
  refine w_aload_n C dX7_init_116 rfl ?_
  refine w_bipush (v := 40) C dX7_init_117 rfl ?_
  refine w_newI (N := 40) (i := 0) C (by first | rfl | assumption | (simp [up1, Nat.zero_lt_one]; done)) dX7_init_119 mA_int IA_56 (by decide) rfl rfl (by decide) ⟨by first | decide | (show _ ≤ _; simp only [rmd]; omega), by first | decide | (show _ ≤ _; simp only [rmd]; omega)⟩ ?_
  intro ad119 hag119
  refine rp_X7_55 C hnam dX7_init_121 (by first | exact Nat.zero_lt_one | assumption | (simp [inD, up1, cnC, Nat.zero_lt_one]; done) | (simp [inD, up1, cnC, Nat.zero_lt_one]; omega)) (by first | exact Nat.zero_lt_one | assumption | (simp [inD, up1, cnC, Nat.zero_lt_one]; done) | (simp [inD, up1, cnC, Nat.zero_lt_one]; omega)) ?_
  refine w_aload_n C dX7_init_124 rfl ?_
  refine w_bipush (v := 40) C dX7_init_125 rfl ?_
  refine w_newI (N := 40) (i := 0) C (by first | rfl | assumption | (simp [up1, Nat.zero_lt_one]; done)) dX7_init_127 mA_int IA_57 (by decide) rfl rfl (by decide) ⟨by first | decide | (show _ ≤ _; simp only [rmd]; omega), by first | decide | (show _ ≤ _; simp only [rmd]; omega)⟩ ?_
  intro ad127 hag127
  refine rp_X7_58 C hnam dX7_init_129 (by first | exact Nat.zero_lt_one | assumption | (simp [inD, up1, cnC, Nat.zero_lt_one]; done) | (simp [inD, up1, cnC, Nat.zero_lt_one]; omega)) (by first | exact Nat.zero_lt_one | assumption | (simp [inD, up1, cnC, Nat.zero_lt_one]; done) | (simp [inD, up1, cnC, Nat.zero_lt_one]; omega)) ?_
  refine w_aload_n C dX7_init_132 rfl ?_
  refine w_bipush (v := 40) C dX7_init_133 rfl ?_
  refine w_newZ (N := 40) (i := 0) C (by first | rfl | assumption | (simp [up1, Nat.zero_lt_one]; done)) dX7_init_135 mA_boolean ZA_45 (by decide) rfl rfl (by decide) ⟨by first | decide | (show _ ≤ _; simp only [rmd]; omega), by first | decide | (show _ ≤ _; simp only [rmd]; omega)⟩ ?_
  intro ad135 hag135
  refine rp_X7_61 C hnam dX7_init_137 (by first | exact Nat.zero_lt_one | assumption | (simp [inD, up1, cnC, Nat.zero_lt_one]; done) | (simp [inD, up1, cnC, Nat.zero_lt_one]; omega)) (by first | exact Nat.zero_lt_one | assumption | (simp [inD, up1, cnC, Nat.zero_lt_one]; done) | (simp [inD, up1, cnC, Nat.zero_lt_one]; omega)) ?_
  refine w_aload_n C dX7_init_140 rfl ?_
  refine w_sipush (v := 720) C dX7_init_141 rfl ?_
  refine w_newI (N := 720) (i := 0) C (by first | rfl | assumption | (simp [up1, Nat.zero_lt_one]; done)) dX7_init_144 mA_int IA_58 (by decide) rfl rfl (by decide) ⟨by first | decide | (show _ ≤ _; simp only [rmd]; omega), by first | decide | (show _ ≤ _; simp only [rmd]; omega)⟩ ?_
  intro ad144 hag144
  refine rp_X7_64 C hnam dX7_init_146 (by first | exact Nat.zero_lt_one | assumption | (simp [inD, up1, cnC, Nat.zero_lt_one]; done) | (simp [inD, up1, cnC, Nat.zero_lt_one]; omega)) (by first | exact Nat.zero_lt_one | assumption | (simp [inD, up1, cnC, Nat.zero_lt_one]; done) | (simp [inD, up1, cnC, Nat.zero_lt_one]; omega)) ?_
  refine w_aload_n C dX7_init_149 rfl ?_
  refine w_iconst C dX7_init_150 ?_
  refine w_newI (N := 4) (i := 0) C (by first | rfl | assumption | (simp [up1, Nat.zero_lt_one]; done)) dX7_init_151 mA_int IA_59 (by decide) rfl rfl (by decide) ⟨by first | decide | (show _ ≤ _; simp only [rmd]; omega), by first | decide | (show _ ≤ _; simp only [rmd]; omega)⟩ ?_
  intro ad151 hag151
  refine rp_X7_67 C hnam dX7_init_153 (by first | exact Nat.zero_lt_one | assumption | (simp [inD, up1, cnC, Nat.zero_lt_one]; done) | (simp [inD, up1, cnC, Nat.zero_lt_one]; omega)) (by first | exact Nat.zero_lt_one | assumption | (simp [inD, up1, cnC, Nat.zero_lt_one]; done) | (simp [inD, up1, cnC, Nat.zero_lt_one]; omega)) ?_
  refine w_aload_n C dX7_init_156 rfl ?_
  refine w_iconst C dX7_init_157 ?_
  refine w_newI (N := 4) (i := 0) C (by first | rfl | assumption | (simp [up1, Nat.zero_lt_one]; done)) dX7_init_158 mA_int IA_60 (by decide) rfl rfl (by decide) ⟨by first | decide | (show _ ≤ _; simp only [rmd]; omega), by first | decide | (show _ ≤ _; simp only [rmd]; omega)⟩ ?_
  intro ad158 hag158
  refine rp_X7_70 C hnam dX7_init_160 (by first | exact Nat.zero_lt_one | assumption | (simp [inD, up1, cnC, Nat.zero_lt_one]; done) | (simp [inD, up1, cnC, Nat.zero_lt_one]; omega)) (by first | exact Nat.zero_lt_one | assumption | (simp [inD, up1, cnC, Nat.zero_lt_one]; done) | (simp [inD, up1, cnC, Nat.zero_lt_one]; omega)) ?_
  refine w_aload_n C dX7_init_163 rfl ?_
  refine w_bipush (v := 32) C dX7_init_164 rfl ?_
  refine w_newI (N := 32) (i := 0) C (by first | rfl | assumption | (simp [up1, Nat.zero_lt_one]; done)) dX7_init_166 mA_int IA_61 (by decide) rfl rfl (by decide) ⟨by first | decide | (show _ ≤ _; simp only [rmd]; omega), by first | decide | (show _ ≤ _; simp only [rmd]; omega)⟩ ?_
  intro ad166 hag166
  refine rp_X7_73 C hnam dX7_init_168 (by first | exact Nat.zero_lt_one | assumption | (simp [inD, up1, cnC, Nat.zero_lt_one]; done) | (simp [inD, up1, cnC, Nat.zero_lt_one]; omega)) (by first | exact Nat.zero_lt_one | assumption | (simp [inD, up1, cnC, Nat.zero_lt_one]; done) | (simp [inD, up1, cnC, Nat.zero_lt_one]; omega)) ?_
  refine w_aload_n C dX7_init_171 rfl ?_
  refine w_iconst C dX7_init_172 ?_
  refine w_newI (N := 4) (i := 0) C (by first | rfl | assumption | (simp [up1, Nat.zero_lt_one]; done)) dX7_init_173 mA_int IA_62 (by decide) rfl rfl (by decide) ⟨by first | decide | (show _ ≤ _; simp only [rmd]; omega), by first | decide | (show _ ≤ _; simp only [rmd]; omega)⟩ ?_
  intro ad173 hag173
  refine rp_X7_76 C hnam dX7_init_175 (by first | exact Nat.zero_lt_one | assumption | (simp [inD, up1, cnC, Nat.zero_lt_one]; done) | (simp [inD, up1, cnC, Nat.zero_lt_one]; omega)) (by first | exact Nat.zero_lt_one | assumption | (simp [inD, up1, cnC, Nat.zero_lt_one]; done) | (simp [inD, up1, cnC, Nat.zero_lt_one]; omega)) ?_
  refine w_aload_n C dX7_init_178 rfl ?_
  refine w_bipush (v := 25) C dX7_init_179 rfl ?_
  refine w_newI (N := 25) (i := 0) C (by first | rfl | assumption | (simp [up1, Nat.zero_lt_one]; done)) dX7_init_181 mA_int IA_63 (by decide) rfl rfl (by decide) ⟨by first | decide | (show _ ≤ _; simp only [rmd]; omega), by first | decide | (show _ ≤ _; simp only [rmd]; omega)⟩ ?_
  intro ad181 hag181
  refine rp_X7_79 C hnam dX7_init_183 (by first | exact Nat.zero_lt_one | assumption | (simp [inD, up1, cnC, Nat.zero_lt_one]; done) | (simp [inD, up1, cnC, Nat.zero_lt_one]; omega)) (by first | exact Nat.zero_lt_one | assumption | (simp [inD, up1, cnC, Nat.zero_lt_one]; done) | (simp [inD, up1, cnC, Nat.zero_lt_one]; omega)) ?_
  refine w_aload_n C dX7_init_186 rfl ?_
  refine w_bipush (v := 25) C dX7_init_187 rfl ?_
  refine w_newI (N := 25) (i := 0) C (by first | rfl | assumption | (simp [up1, Nat.zero_lt_one]; done)) dX7_init_189 mA_int IA_64 (by decide) rfl rfl (by decide) ⟨by first | decide | (show _ ≤ _; simp only [rmd]; omega), by first | decide | (show _ ≤ _; simp only [rmd]; omega)⟩ ?_
  intro ad189 hag189
  refine rp_X7_82 C hnam dX7_init_191 (by first | exact Nat.zero_lt_one | assumption | (simp [inD, up1, cnC, Nat.zero_lt_one]; done) | (simp [inD, up1, cnC, Nat.zero_lt_one]; omega)) (by first | exact Nat.zero_lt_one | assumption | (simp [inD, up1, cnC, Nat.zero_lt_one]; done) | (simp [inD, up1, cnC, Nat.zero_lt_one]; omega)) ?_
  refine w_aload_n C dX7_init_194 rfl ?_
  refine w_iconst C dX7_init_195 ?_
  refine w_newI (N := 4) (i := 0) C (by first | rfl | assumption | (simp [up1, Nat.zero_lt_one]; done)) dX7_init_196 mA_int IA_65 (by decide) rfl rfl (by decide) ⟨by first | decide | (show _ ≤ _; simp only [rmd]; omega), by first | decide | (show _ ≤ _; simp only [rmd]; omega)⟩ ?_
  intro ad196 hag196
  refine rp_X7_85 C hnam dX7_init_198 (by first | exact Nat.zero_lt_one | assumption | (simp [inD, up1, cnC, Nat.zero_lt_one]; done) | (simp [inD, up1, cnC, Nat.zero_lt_one]; omega)) (by first | exact Nat.zero_lt_one | assumption | (simp [inD, up1, cnC, Nat.zero_lt_one]; done) | (simp [inD, up1, cnC, Nat.zero_lt_one]; omega)) ?_
  refine w_aload_n C dX7_init_201 rfl ?_
  refine w_bipush (v := 40) C dX7_init_202 rfl ?_
  refine w_newI (N := 40) (i := 0) C (by first | rfl | assumption | (simp [up1, Nat.zero_lt_one]; done)) dX7_init_204 mA_int IA_66 (by decide) rfl rfl (by decide) ⟨by first | decide | (show _ ≤ _; simp only [rmd]; omega), by first | decide | (show _ ≤ _; simp only [rmd]; omega)⟩ ?_
  intro ad204 hag204
  refine rp_X7_88 C hnam dX7_init_206 (by first | exact Nat.zero_lt_one | assumption | (simp [inD, up1, cnC, Nat.zero_lt_one]; done) | (simp [inD, up1, cnC, Nat.zero_lt_one]; omega)) (by first | exact Nat.zero_lt_one | assumption | (simp [inD, up1, cnC, Nat.zero_lt_one]; done) | (simp [inD, up1, cnC, Nat.zero_lt_one]; omega)) ?_
  refine w_aload_n C dX7_init_209 rfl ?_
  refine w_bipush (v := 40) C dX7_init_210 rfl ?_
  refine w_newI (N := 40) (i := 0) C (by first | rfl | assumption | (simp [up1, Nat.zero_lt_one]; done)) dX7_init_212 mA_int IA_67 (by decide) rfl rfl (by decide) ⟨by first | decide | (show _ ≤ _; simp only [rmd]; omega), by first | decide | (show _ ≤ _; simp only [rmd]; omega)⟩ ?_
  intro ad212 hag212
  refine rp_X7_91 C hnam dX7_init_214 (by first | exact Nat.zero_lt_one | assumption | (simp [inD, up1, cnC, Nat.zero_lt_one]; done) | (simp [inD, up1, cnC, Nat.zero_lt_one]; omega)) (by first | exact Nat.zero_lt_one | assumption | (simp [inD, up1, cnC, Nat.zero_lt_one]; done) | (simp [inD, up1, cnC, Nat.zero_lt_one]; omega)) ?_
  refine w_aload_n C dX7_init_217 rfl ?_
  refine w_bipush (v := 40) C dX7_init_218 rfl ?_
  refine w_newI (N := 40) (i := 0) C (by first | rfl | assumption | (simp [up1, Nat.zero_lt_one]; done)) dX7_init_220 mA_int IA_68 (by decide) rfl rfl (by decide) ⟨by first | decide | (show _ ≤ _; simp only [rmd]; omega), by first | decide | (show _ ≤ _; simp only [rmd]; omega)⟩ ?_
  intro ad220 hag220
  refine rp_X7_94 C hnam dX7_init_222 (by first | exact Nat.zero_lt_one | assumption | (simp [inD, up1, cnC, Nat.zero_lt_one]; done) | (simp [inD, up1, cnC, Nat.zero_lt_one]; omega)) (by first | exact Nat.zero_lt_one | assumption | (simp [inD, up1, cnC, Nat.zero_lt_one]; done) | (simp [inD, up1, cnC, Nat.zero_lt_one]; omega)) ?_
  refine w_aload_n C dX7_init_225 rfl ?_
  refine w_bipush (v := 40) C dX7_init_226 rfl ?_
  refine w_newI (N := 40) (i := 0) C (by first | rfl | assumption | (simp [up1, Nat.zero_lt_one]; done)) dX7_init_228 mA_int IA_69 (by decide) rfl rfl (by decide) ⟨by first | decide | (show _ ≤ _; simp only [rmd]; omega), by first | decide | (show _ ≤ _; simp only [rmd]; omega)⟩ ?_
  intro ad228 hag228
  refine rp_X7_97 C hnam dX7_init_230 (by first | exact Nat.zero_lt_one | assumption | (simp [inD, up1, cnC, Nat.zero_lt_one]; done) | (simp [inD, up1, cnC, Nat.zero_lt_one]; omega)) (by first | exact Nat.zero_lt_one | assumption | (simp [inD, up1, cnC, Nat.zero_lt_one]; done) | (simp [inD, up1, cnC, Nat.zero_lt_one]; omega)) ?_
  refine w_aload_n C dX7_init_233 rfl ?_
  refine w_bipush (v := 40) C dX7_init_234 rfl ?_
  refine w_newI (N := 40) (i := 0) C (by first | rfl | assumption | (simp [up1, Nat.zero_lt_one]; done)) dX7_init_236 mA_int IA_70 (by decide) rfl rfl (by decide) ⟨by first | decide | (show _ ≤ _; simp only [rmd]; omega), by first | decide | (show _ ≤ _; simp only [rmd]; omega)⟩ ?_
  intro ad236 hag236
  refine rp_X7_100 C hnam dX7_init_238 (by first | exact Nat.zero_lt_one | assumption | (simp [inD, up1, cnC, Nat.zero_lt_one]; done) | (simp [inD, up1, cnC, Nat.zero_lt_one]; omega)) (by first | exact Nat.zero_lt_one | assumption | (simp [inD, up1, cnC, Nat.zero_lt_one]; done) | (simp [inD, up1, cnC, Nat.zero_lt_one]; omega)) ?_
  refine w_aload_n C dX7_init_241 rfl ?_
  refine w_bipush (v := 40) C dX7_init_242 rfl ?_
  refine w_newZ (N := 40) (i := 0) C (by first | rfl | assumption | (simp [up1, Nat.zero_lt_one]; done)) dX7_init_244 mA_boolean ZA_46 (by decide) rfl rfl (by decide) ⟨by first | decide | (show _ ≤ _; simp only [rmd]; omega), by first | decide | (show _ ≤ _; simp only [rmd]; omega)⟩ ?_
  intro ad244 hag244
  refine rp_X7_103 C hnam dX7_init_246 (by first | exact Nat.zero_lt_one | assumption | (simp [inD, up1, cnC, Nat.zero_lt_one]; done) | (simp [inD, up1, cnC, Nat.zero_lt_one]; omega)) (by first | exact Nat.zero_lt_one | assumption | (simp [inD, up1, cnC, Nat.zero_lt_one]; done) | (simp [inD, up1, cnC, Nat.zero_lt_one]; omega)) ?_
  refine Wm.commit 97 40 0 rfl (by decide) (by decide) rfl (show ∀ q ∈ fT 40 0, q.1 ≠ 40 ∧ q.2 < _ by decide) (fun _ => rfl) rfl rfl (fun ad' => by rfl) ?_
  intro ad8 h8 hag8
  refine Wm.eqC (cn' := cntM) (by
    funext k
    by_cases h1 : 40 ≤ k ∧ k ≤ 70
    · rcases (show k = 40 ∨ k = 41 ∨ k = 42 ∨ k = 43 ∨ k = 44 ∨ k = 45 ∨ k = 46 ∨ k = 47 ∨ k = 48 ∨ k = 49 ∨ k = 50 ∨ k = 51 ∨ k = 52 ∨ k = 53 ∨ k = 54 ∨ k = 55 ∨ k = 56 ∨ k = 57 ∨ k = 58 ∨ k = 59 ∨ k = 60 ∨ k = 61 ∨ k = 62 ∨ k = 63 ∨ k = 64 ∨ k = 65 ∨ k = 66 ∨ k = 67 ∨ k = 68 ∨ k = 69 ∨ k = 70 by omega) with rfl | rfl | rfl | rfl | rfl | rfl | rfl | rfl | rfl | rfl | rfl | rfl | rfl | rfl | rfl | rfl | rfl | rfl | rfl | rfl | rfl | rfl | rfl | rfl | rfl | rfl | rfl | rfl | rfl | rfl | rfl <;> rfl
    · rw [cntM_out h1]
      by_cases h2 : k = 97
      · subst h2
        rfl
      · repeat rw [up1_ne (by omega)]
        exact if_neg h2) ?_
  refine Wm.widen (c2 := 30) (s2 := 2290) (by decide) (by decide) ?_
  have hag : ∀ k' i', k' < 40 ∨ 70 < k' → ad8 k' i' = ad k' i' := fun k' i' h => by
    rw [hag8 _ _ (by omega), hag244 _ _ (by omega), hag236 _ _ (by omega), hag228 _ _ (by omega), hag220 _ _ (by omega), hag212 _ _ (by omega), hag204 _ _ (by omega), hag196 _ _ (by omega), hag189 _ _ (by omega), hag181 _ _ (by omega), hag173 _ _ (by omega), hag166 _ _ (by omega), hag158 _ _ (by omega), hag151 _ _ (by omega), hag144 _ _ (by omega), hag135 _ _ (by omega), hag127 _ _ (by omega), hag119 _ _ (by omega), hag111 _ _ (by omega), hag103 _ _ (by omega), hag95 _ _ (by omega), hag87 _ _ (by omega), hag79 _ _ (by omega), hag71 _ _ (by omega), hag63 _ _ (by omega), hag55 _ _ (by omega), hag47 _ _ (by omega), hag39 _ _ (by omega), hag30 _ _ (by omega), hag22 _ _ (by omega), hag14 _ _ (by omega)]
  have h40 : ad8 40 0 = ad 97 0 := by
    rw [h8, hag244 _ _ (by omega), hag236 _ _ (by omega), hag228 _ _ (by omega), hag220 _ _ (by omega), hag212 _ _ (by omega), hag204 _ _ (by omega), hag196 _ _ (by omega), hag189 _ _ (by omega), hag181 _ _ (by omega), hag173 _ _ (by omega), hag166 _ _ (by omega), hag158 _ _ (by omega), hag151 _ _ (by omega), hag144 _ _ (by omega), hag135 _ _ (by omega), hag127 _ _ (by omega), hag119 _ _ (by omega), hag111 _ _ (by omega), hag103 _ _ (by omega), hag95 _ _ (by omega), hag87 _ _ (by omega), hag79 _ _ (by omega), hag71 _ _ (by omega), hag63 _ _ (by omega), hag55 _ _ (by omega), hag47 _ _ (by omega), hag39 _ _ (by omega), hag30 _ _ (by omega), hag22 _ _ (by omega), hag14 _ _ (by omega)]
  generalize hMC : cpM _ 97 40 0 = MC
  have i0 : ∀ k, 41 ≤ k → k ≤ 70 → ∀ t, MC.1 k 0 t = 0 := by
    intro k h1 h2 t
    rw [← hMC]
    rcases (show k = 40 ∨ k = 41 ∨ k = 42 ∨ k = 43 ∨ k = 44 ∨ k = 45 ∨ k = 46 ∨ k = 47 ∨ k = 48 ∨ k = 49 ∨ k = 50 ∨ k = 51 ∨ k = 52 ∨ k = 53 ∨ k = 54 ∨ k = 55 ∨ k = 56 ∨ k = 57 ∨ k = 58 ∨ k = 59 ∨ k = 60 ∨ k = 61 ∨ k = 62 ∨ k = 63 ∨ k = 64 ∨ k = 65 ∨ k = 66 ∨ k = 67 ∨ k = 68 ∨ k = 69 ∨ k = 70 by omega) with rfl | rfl | rfl | rfl | rfl | rfl | rfl | rfl | rfl | rfl | rfl | rfl | rfl | rfl | rfl | rfl | rfl | rfl | rfl | rfl | rfl | rfl | rfl | rfl | rfl | rfl | rfl | rfl | rfl | rfl | rfl <;> first | rfl | (exfalso; omega)
  have i1 : ∀ t, MC.1 40 0 t = if t = 1 then 12 else 0 := by
    intro t
    rw [← hMC]
    show (if 97 = 97 ∧ 0 = 0 ∧ t = 1 then (12 : Int) else M.1 97 0 t) = _
    rw [hz]
    simp
  have i2 : ∀ t, MC.2.2.1 40 0 t = 0 := by
    intro t
    rw [← hMC]
    show M.2.2.1 97 0 t = 0
    rw [hzl]
  have loop : ∀ (d n : Nat) (M1 : Mem), n + d = 8 → (∀ k, k ≠ 49 → M1.1 k 0 = MC.1 k 0) → M1.2.2.1 = MC.2.2.1 → (∀ j, j < n → M1.1 49 0 j = -1) → Wm p l e (rmd 2 30 2290) s m args below meth c 2 D cA b0 (30) (2290) (vx_MQ below (mQN D cA b0 (fun r ad' cn' M' => r = none ∧ ad' 40 0 = ad 97 0 ∧ (∀ k' i', k' < 40 ∨ 70 < k' → ad' k' i' = ad k' i') ∧ cn' = cntM ∧ RepMo S0 [] 0 M')) (mX D cA b0 ad cn97 (fun _ _ => False)) args s 30 2290 b0) 251 [(0, aO 40 0), (1, aI n)] [] ad8 cntM M1 := by
    intro d
    induction d with
    | zero =>
      intro n M1 hn hF hl2 h49
      refine w_iload_n C dX7_init_251 rfl ?_
      refine w_bipush (v := 8) C dX7_init_252 rfl ?_
      refine w_icmp_ge C dX7_init_254 (by omega) (by omega) (fun h254 => ?_) (fun h254 => ?_)
      · refine w_aload_n C dX7_init_270 rfl ?_
        refine w_callV0 C dX7_init_271 (c_X7_emptiesN hl) mX7_empties vX7_empties lk_X7_106 Nat.zero_lt_one rfl rfl rfl rfl ⟨by decide, by decide, by decide, by decide⟩ (Nat.le_of_ble_eq_true rfl) (fun _ _ h => h.elim) (fun r_ M_ q271 => ?_)
        obtain ⟨g1, ⟨g2, g2'⟩, g3, g4, g5, g6, rfl⟩ := q271
        have a40 : ∀ t, t ≠ 17 → t ≠ 18 → M_.1 40 0 t = if t = 1 then 12 else 0 := fun t h1 h2 => by rw [g1 t h1 h2, hF 40 (by decide)]; exact i1 t
        have ak : ∀ k, 41 ≤ k → k ≤ 70 → ¬ (58 ≤ k ∧ k ≤ 60) → k ≠ 49 → ∀ t, M_.1 k 0 t = 0 := fun k h1 h2 h3 h4 t => by rw [g4 k (by omega) h3 t, hF k h4]; exact i0 k h1 h2 t
        have a49 : ∀ t, t < 8 → M_.1 49 0 t = -1 := fun t ht => by rw [g4 49 (by omega) (by omega) t]; exact h49 t (by omega)
        refine w_vretN C hr dX7_init_274 (⟨rfl, h40, hag, rfl, ?_⟩) (by first | decide | omega) (by first | decide | omega)
        refine ⟨⟨a40 1 (by omega) (by omega), a40 2 (by omega) (by omega), a40 3 (by omega) (by omega), a40 4 (by omega) (by omega), a40 5 (by omega) (by omega), a40 7 (by omega) (by omega), g2, g2', a40 28 (by omega) (by omega), a40 31 (by omega) (by omega), ?_⟩, fun k hk => ak 41 (by omega) (by omega) (by omega) (by omega) k, fun j hj => ⟨?_, ?_, ?_, ?_, ?_, ?_, ?_, ?_, ?_⟩, fun j k hj hk => ?_, ⟨fun i p hp => (by cases hp), fun k hk => g5 k hk, fun g hg => ?_, fun p hp => (by cases hp)⟩, fun y j hy hj => ?_, fun y hy => ?_⟩
        · rw [g3, hl2]
          exact (i2 32).trans (by decide)
        · exact ak 47 (by omega) (by omega) (by omega) (by omega) j
        · exact ak 42 (by omega) (by omega) (by omega) (by omega) j
        · exact ak 48 (by omega) (by omega) (by omega) (by omega) j
        · exact a49 j hj
        · exact ak 50 (by omega) (by omega) (by omega) (by omega) j
        · exact ak 51 (by omega) (by omega) (by omega) (by omega) j
        · exact (ak 44 (by omega) (by omega) (by omega) (by omega) j).trans rfl
        · exact ak 52 (by omega) (by omega) (by omega) (by omega) (2 * j)
        · exact ak 52 (by omega) (by omega) (by omega) (by omega) (2 * j + 1)
        · exact ak 43 (by omega) (by omega) (by omega) (by omega) (25 * j + k)
        · rw [g6 g hg]
          rfl
        · exact ak 61 (by omega) (by omega) (by omega) (by omega) (8 * y + j)
        · exact ak 62 (by omega) (by omega) (by omega) (by omega) y
      · omega
    | succ d ih =>
      intro n M1 hn hF hl2 h49
      refine w_iload_n C dX7_init_251 rfl ?_
      refine w_bipush (v := 8) C dX7_init_252 rfl ?_
      refine w_icmp_ge C dX7_init_254 (by omega) (by omega) (fun h254 => ?_) (fun h254 => ?_)
      · omega
      · refine w_aload_n C dX7_init_257 rfl ?_
        refine g_X7_31 C dX7_init_258 (by first | assumption | exact Nat.zero_lt_one | exact Nat.zero_lt_two | exact Nat.one_lt_two) ?_
        refine w_iload_n C dX7_init_261 rfl ?_
        refine w_iconst C dX7_init_262 ?_
        refine w_iast C dX7_init_263 (by first | assumption | exact Nat.zero_lt_one | exact Nat.zero_lt_two | exact Nat.one_lt_two) IA_49 (by omega) ?_
        refine w_iinc C dX7_init_264 rfl (by decide) ?_
        refine w_goto C dX7_init_267 ?_
        refine Wm.lsub (lv' := [(0, aO 40 0), (1, aI ((n + 1 : Nat) : Int))]) ⟨rfl, rfl, trivial⟩ (ih (n + 1) _ (by omega) (fun k hk => ?_) hl2 (fun j hj => ?_))
        · funext t
          rw [uI_get, if_neg (by omega)]
          exact congrFun (hF k hk) t
        · rw [uI_get]
          split
          · rfl
          · exact h49 j (by omega)
  refine w_iconst C dX7_init_249 ?_
  refine w_istore_n C dX7_init_250 (by decide) ?_
  exact Wm.lsub (lv' := [(0, aO 40 0), (1, aI ((0 : Nat) : Int))]) ⟨rfl, rfl, trivial⟩ (loop 8 0 MC (by omega) (fun _ _ => rfl) rfl (fun j hj => absurd hj (Nat.not_lt_zero j)))
