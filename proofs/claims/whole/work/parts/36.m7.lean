def mI0 : Nat → Int := fun j => match j with
  | 0 => 0
  | 2 => 20
  | 3 => 10
  | 4 => 12
  | 5 => 2
  | _ => 3
set_option maxHeartbeats 4000000 in
set_option maxRecDepth 100000 in
theorem c_X2_init (l : Launch) (D : va_G) (cy : Nat → ClassId) (A : Nat → Prop) (ad : Nat → Nat) (H0 : Heap) (hAf : ∀ q, H0.size ≤ q → A q) (hw : zW D A ad (oE 2 [.int 0, .null, .int 0, .int 0, .int 0, .int 0, .int 0, .null, .null, .null, .null, .null, .null, .null, .null, .null, .null, .null, .null]) H0) : Met l yX2_init wsX2_init ({ frames := 1, cells := 13, slots := 1787, locals := 21 }) (zPc D cy A [.ref (ad 0)] H0) (zQv (fun H1 => ∃ ad2 mb, ad2 0 = ad 0 ∧ zW D A ad2 (mE cy ad2 mI0 mb) H1 ∧ (∀ j, j < 1000 → mb 1 j = 20) ∧ ∀ r, r ≠ 1 → mb r = fun _ => 0) A) 13 1787 A := by
  refine Met.ofW (cc := cX2_init) (maxL := 2) (ret := none) (by decide) rfl ?_
  intro pg en s mt args below meth c s₁ B hml hv
  obtain ⟨rfl, hH, hE⟩ := hv
  subst hH
  have hx := B.exec
  have hb := B.bytes
  have hr := B.returns
  have hts := atoms_spec (ws := wsX2_init) B.pre
  have hown : s.vm.findClass RX2 = some mt.cls := findClass_of_methodNamed B.named
  have hlocks := B.notSynchronized
  have hinX2 : ∀ w ∈ u_ws RX2 TX2 19, w ∈ wsX2_init := by decide +kernel
  have hS : va_S A s.heap s.heap [] := va_S.rf
  have hl := lv_entry ([.ref (ad 0)]) (n := 2) (Nat.le_of_ble_eq_true rfl)
  rw [lg_entry_eq]
  generalize (lg_sl ([.ref (ad 0)]) ++ List.replicate (2 - (lg_sl ([.ref (ad 0)])).length) Slot.unset).toArray = ls at hl ⊢
  have hl : lv_has ls 2 [(0, .ref (ad 0))] := hl
  have hin2 : meth.name = "<init>" := (name_of_methodNamed B.named B.method).1
  refine lv_aload_n hx hb dX2_init_0 rfl (lv_at hl 0 rfl) ?_
  refine W.objInit hx hb hown (hts (.methodLink RX2 1 objectInit) (by decide +kernel)) (hts (.instanceMethod objectInit) (by decide +kernel)) (hts (.code objectInit ⟨#[0xb1]⟩ 1 none) (by decide +kernel)) rfl (by rw [hml]; exact hl.1) rfl dX2_init_1 (Nat.le_of_ble_eq_true rfl) (Nat.le_of_ble_eq_true rfl) ?_
  refine W.eq (g2 := F0 mt 4 ls []) rfl ?_
  refine lv_aload_n hx hb dX2_init_4 rfl (lv_at hl 0 rfl) ?_
  refine zi_sipush hx hb dX2_init_5 (by decide) ?_
  refine znewa (atype := .int) hx hb (hts (.arrayClass .int) (by decide +kernel)) (ty := .int) rfl hE hS hAf hw 1 (by decide) rfl 0 rfl (N' := 1000) (a0 := (1000, .inl (fun _ => iI 0))) (vz_i 1000) (by decide +kernel) (by decide +kernel) (by decide +kernel) (by decide +kernel) (by decide +kernel) dX2_init_8 (fun q_8 H hw hS => ?_)
  refine zputF (C := RX2) (T := TX2) (N := 19) hx hb hts hinX2 tyX2 tyX2_ok nmX2 hown hE hS hw 0 rfl rfl 1 (by decide) (hts (.fieldLink RX2 7 "FormworkYardModel" "temperatures" "[I") (by decide +kernel)) rfl hin2 rfl (ty := (.array .int)) (by decide +kernel) rfl rfl (Nat.le_of_ble_eq_true rfl) dX2_init_10 (fun H locs hw hS => ?_)
  simp only [List.set_cons_zero, List.set_cons_succ] at hw
  refine lv_aload_n hx hb dX2_init_13 rfl (lv_at hl 0 rfl) ?_
  refine zi_bipush hx hb dX2_init_14 (by decide) ?_
  refine zput (C := RX2) (T := TX2) (N := 19) hx hb hts hinX2 tyX2 tyX2_ok nmX2 hown hE hS hw 0 rfl rfl 2 (by decide) (hts (.fieldLink RX2 13 "FormworkYardModel" "panels" "I") (by decide +kernel)) rfl (ty := .int) (by decide +kernel) rfl rfl (Nat.le_of_ble_eq_true rfl) dX2_init_16 (fun H locs hw hS => ?_)
  simp only [List.set_cons_zero, List.set_cons_succ] at hw
  refine lv_aload_n hx hb dX2_init_19 rfl (lv_at hl 0 rfl) ?_
  refine zi_bipush hx hb dX2_init_20 (by decide) ?_
  refine zput (C := RX2) (T := TX2) (N := 19) hx hb hts hinX2 tyX2 tyX2_ok nmX2 hown hE hS hw 0 rfl rfl 3 (by decide) (hts (.fieldLink RX2 17 "FormworkYardModel" "trucks" "I") (by decide +kernel)) rfl (ty := .int) (by decide +kernel) rfl rfl (Nat.le_of_ble_eq_true rfl) dX2_init_22 (fun H locs hw hS => ?_)
  simp only [List.set_cons_zero, List.set_cons_succ] at hw
  refine lv_aload_n hx hb dX2_init_25 rfl (lv_at hl 0 rfl) ?_
  refine zi_bipush hx hb dX2_init_26 (by decide) ?_
  refine zput (C := RX2) (T := TX2) (N := 19) hx hb hts hinX2 tyX2 tyX2_ok nmX2 hown hE hS hw 0 rfl rfl 4 (by decide) (hts (.fieldLink RX2 20 "FormworkYardModel" "pump" "I") (by decide +kernel)) rfl (ty := .int) (by decide +kernel) rfl rfl (Nat.le_of_ble_eq_true rfl) dX2_init_28 (fun H locs hw hS => ?_)
  simp only [List.set_cons_zero, List.set_cons_succ] at hw
  refine lv_aload_n hx hb dX2_init_31 rfl (lv_at hl 0 rfl) ?_
  refine zi_const hx hb dX2_init_32 ?_
  refine zput (C := RX2) (T := TX2) (N := 19) hx hb hts hinX2 tyX2 tyX2_ok nmX2 hown hE hS hw 0 rfl rfl 5 (by decide) (hts (.fieldLink RX2 23 "FormworkYardModel" "setUp" "I") (by decide +kernel)) rfl (ty := .int) (by decide +kernel) rfl rfl (Nat.le_of_ble_eq_true rfl) dX2_init_33 (fun H locs hw hS => ?_)
  simp only [List.set_cons_zero, List.set_cons_succ] at hw
  refine lv_aload_n hx hb dX2_init_36 rfl (lv_at hl 0 rfl) ?_
  refine zi_const hx hb dX2_init_37 ?_
  refine zput (C := RX2) (T := TX2) (N := 19) hx hb hts hinX2 tyX2 tyX2_ok nmX2 hown hE hS hw 0 rfl rfl 6 (by decide) (hts (.fieldLink RX2 26 "FormworkYardModel" "cleaning" "I") (by decide +kernel)) rfl (ty := .int) (by decide +kernel) rfl rfl (Nat.le_of_ble_eq_true rfl) dX2_init_38 (fun H locs hw hS => ?_)
  simp only [List.set_cons_zero, List.set_cons_succ] at hw
  refine lv_aload_n hx hb dX2_init_41 rfl (lv_at hl 0 rfl) ?_
  refine zi_bipush hx hb dX2_init_42 (by decide) ?_
  refine znewa (atype := .boolean) hx hb (hts (.arrayClass .boolean) (by decide +kernel)) (ty := .boolean) rfl hE hS hAf hw 7 (by decide) rfl 1 rfl (N' := 11) (a0 := (11, .inl (fun _ => iI 0))) (vz_b 11) (by decide +kernel) (by decide +kernel) (by decide +kernel) (by decide +kernel) (by decide +kernel) dX2_init_44 (fun q_44 H hw hS => ?_)
  refine zputF (C := RX2) (T := TX2) (N := 19) hx hb hts hinX2 tyX2 tyX2_ok nmX2 hown hE hS hw 0 rfl rfl 7 (by decide) (hts (.fieldLink RX2 29 "FormworkYardModel" "isThere" "[Z") (by decide +kernel)) rfl hin2 rfl (ty := (.array .boolean)) (by decide +kernel) rfl rfl (Nat.le_of_ble_eq_true rfl) dX2_init_46 (fun H locs hw hS => ?_)
  simp only [List.set_cons_zero, List.set_cons_succ] at hw
  refine lv_aload_n hx hb dX2_init_49 rfl (lv_at hl 0 rfl) ?_
  refine zi_bipush hx hb dX2_init_50 (by decide) ?_
  refine znewa (atype := .int) hx hb (hts (.arrayClass .int) (by decide +kernel)) (ty := .int) rfl hE hS hAf hw 8 (by decide) rfl 0 rfl (N' := 11) (a0 := (11, .inl (fun _ => iI 0))) (vz_i 11) (by decide +kernel) (by decide +kernel) (by decide +kernel) (by decide +kernel) (by decide +kernel) dX2_init_52 (fun q_52 H hw hS => ?_)
  refine zputF (C := RX2) (T := TX2) (N := 19) hx hb hts hinX2 tyX2 tyX2_ok nmX2 hown hE hS hw 0 rfl rfl 8 (by decide) (hts (.fieldLink RX2 33 "FormworkYardModel" "starts" "[I") (by decide +kernel)) rfl hin2 rfl (ty := (.array .int)) (by decide +kernel) rfl rfl (Nat.le_of_ble_eq_true rfl) dX2_init_54 (fun H locs hw hS => ?_)
  simp only [List.set_cons_zero, List.set_cons_succ] at hw
  refine lv_aload_n hx hb dX2_init_57 rfl (lv_at hl 0 rfl) ?_
  refine zi_bipush hx hb dX2_init_58 (by decide) ?_
  refine znewa (atype := .int) hx hb (hts (.arrayClass .int) (by decide +kernel)) (ty := .int) rfl hE hS hAf hw 9 (by decide) rfl 0 rfl (N' := 11) (a0 := (11, .inl (fun _ => iI 0))) (vz_i 11) (by decide +kernel) (by decide +kernel) (by decide +kernel) (by decide +kernel) (by decide +kernel) dX2_init_60 (fun q_60 H hw hS => ?_)
  refine zputF (C := RX2) (T := TX2) (N := 19) hx hb hts hinX2 tyX2 tyX2_ok nmX2 hown hE hS hw 0 rfl rfl 9 (by decide) (hts (.fieldLink RX2 36 "FormworkYardModel" "volumes" "[I") (by decide +kernel)) rfl hin2 rfl (ty := (.array .int)) (by decide +kernel) rfl rfl (Nat.le_of_ble_eq_true rfl) dX2_init_62 (fun H locs hw hS => ?_)
  simp only [List.set_cons_zero, List.set_cons_succ] at hw
  refine lv_aload_n hx hb dX2_init_65 rfl (lv_at hl 0 rfl) ?_
  refine zi_bipush hx hb dX2_init_66 (by decide) ?_
  refine znewa (atype := .int) hx hb (hts (.arrayClass .int) (by decide +kernel)) (ty := .int) rfl hE hS hAf hw 10 (by decide) rfl 0 rfl (N' := 11) (a0 := (11, .inl (fun _ => iI 0))) (vz_i 11) (by decide +kernel) (by decide +kernel) (by decide +kernel) (by decide +kernel) (by decide +kernel) dX2_init_68 (fun q_68 H hw hS => ?_)
  refine zputF (C := RX2) (T := TX2) (N := 19) hx hb hts hinX2 tyX2 tyX2_ok nmX2 hown hE hS hw 0 rfl rfl 10 (by decide) (hts (.fieldLink RX2 39 "FormworkYardModel" "needs" "[I") (by decide +kernel)) rfl hin2 rfl (ty := (.array .int)) (by decide +kernel) rfl rfl (Nat.le_of_ble_eq_true rfl) dX2_init_70 (fun H locs hw hS => ?_)
  simp only [List.set_cons_zero, List.set_cons_succ] at hw
  refine lv_aload_n hx hb dX2_init_73 rfl (lv_at hl 0 rfl) ?_
  refine zi_bipush hx hb dX2_init_74 (by decide) ?_
  refine znewa (atype := .int) hx hb (hts (.arrayClass .int) (by decide +kernel)) (ty := .int) rfl hE hS hAf hw 11 (by decide) rfl 0 rfl (N' := 11) (a0 := (11, .inl (fun _ => iI 0))) (vz_i 11) (by decide +kernel) (by decide +kernel) (by decide +kernel) (by decide +kernel) (by decide +kernel) dX2_init_76 (fun q_76 H hw hS => ?_)
  refine zputF (C := RX2) (T := TX2) (N := 19) hx hb hts hinX2 tyX2 tyX2_ok nmX2 hown hE hS hw 0 rfl rfl 11 (by decide) (hts (.fieldLink RX2 42 "FormworkYardModel" "wanted" "[I") (by decide +kernel)) rfl hin2 rfl (ty := (.array .int)) (by decide +kernel) rfl rfl (Nat.le_of_ble_eq_true rfl) dX2_init_78 (fun H locs hw hS => ?_)
  simp only [List.set_cons_zero, List.set_cons_succ] at hw
  refine lv_aload_n hx hb dX2_init_81 rfl (lv_at hl 0 rfl) ?_
  refine zi_bipush hx hb dX2_init_82 (by decide) ?_
  refine znewa (atype := .int) hx hb (hts (.arrayClass .int) (by decide +kernel)) (ty := .int) rfl hE hS hAf hw 12 (by decide) rfl 0 rfl (N' := 11) (a0 := (11, .inl (fun _ => iI 0))) (vz_i 11) (by decide +kernel) (by decide +kernel) (by decide +kernel) (by decide +kernel) (by decide +kernel) dX2_init_84 (fun q_84 H hw hS => ?_)
  refine zputF (C := RX2) (T := TX2) (N := 19) hx hb hts hinX2 tyX2 tyX2_ok nmX2 hown hE hS hw 0 rfl rfl 12 (by decide) (hts (.fieldLink RX2 45 "FormworkYardModel" "breakMany" "[I") (by decide +kernel)) rfl hin2 rfl (ty := (.array .int)) (by decide +kernel) rfl rfl (Nat.le_of_ble_eq_true rfl) dX2_init_86 (fun H locs hw hS => ?_)
  simp only [List.set_cons_zero, List.set_cons_succ] at hw
  refine lv_aload_n hx hb dX2_init_89 rfl (lv_at hl 0 rfl) ?_
  refine zi_bipush hx hb dX2_init_90 (by decide) ?_
  refine znewa (atype := .int) hx hb (hts (.arrayClass .int) (by decide +kernel)) (ty := .int) rfl hE hS hAf hw 13 (by decide) rfl 0 rfl (N' := 44) (a0 := (44, .inl (fun _ => iI 0))) (vz_i 44) (by decide +kernel) (by decide +kernel) (by decide +kernel) (by decide +kernel) (by decide +kernel) dX2_init_92 (fun q_92 H hw hS => ?_)
  refine zputF (C := RX2) (T := TX2) (N := 19) hx hb hts hinX2 tyX2 tyX2_ok nmX2 hown hE hS hw 0 rfl rfl 13 (by decide) (hts (.fieldLink RX2 48 "FormworkYardModel" "parts" "[I") (by decide +kernel)) rfl hin2 rfl (ty := (.array .int)) (by decide +kernel) rfl rfl (Nat.le_of_ble_eq_true rfl) dX2_init_94 (fun H locs hw hS => ?_)
  simp only [List.set_cons_zero, List.set_cons_succ] at hw
  refine lv_aload_n hx hb dX2_init_97 rfl (lv_at hl 0 rfl) ?_
  refine zi_bipush hx hb dX2_init_98 (by decide) ?_
  refine znewa (atype := .int) hx hb (hts (.arrayClass .int) (by decide +kernel)) (ty := .int) rfl hE hS hAf hw 14 (by decide) rfl 0 rfl (N' := 44) (a0 := (44, .inl (fun _ => iI 0))) (vz_i 44) (by decide +kernel) (by decide +kernel) (by decide +kernel) (by decide +kernel) (by decide +kernel) dX2_init_100 (fun q_100 H hw hS => ?_)
  refine zputF (C := RX2) (T := TX2) (N := 19) hx hb hts hinX2 tyX2 tyX2_ok nmX2 hown hE hS hw 0 rfl rfl 14 (by decide) (hts (.fieldLink RX2 51 "FormworkYardModel" "lasts" "[I") (by decide +kernel)) rfl hin2 rfl (ty := (.array .int)) (by decide +kernel) rfl rfl (Nat.le_of_ble_eq_true rfl) dX2_init_102 (fun H locs hw hS => ?_)
  simp only [List.set_cons_zero, List.set_cons_succ] at hw
  refine lv_aload_n hx hb dX2_init_105 rfl (lv_at hl 0 rfl) ?_
  refine zi_bipush hx hb dX2_init_106 (by decide) ?_
  refine znewa (atype := .int) hx hb (hts (.arrayClass .int) (by decide +kernel)) (ty := .int) rfl hE hS hAf hw 15 (by decide) rfl 0 rfl (N' := 11) (a0 := (11, .inl (fun _ => iI 0))) (vz_i 11) (by decide +kernel) (by decide +kernel) (by decide +kernel) (by decide +kernel) (by decide +kernel) dX2_init_108 (fun q_108 H hw hS => ?_)
  refine zputF (C := RX2) (T := TX2) (N := 19) hx hb hts hinX2 tyX2 tyX2_ok nmX2 hown hE hS hw 0 rfl rfl 15 (by decide) (hts (.fieldLink RX2 54 "FormworkYardModel" "stands" "[I") (by decide +kernel)) rfl hin2 rfl (ty := (.array .int)) (by decide +kernel) rfl rfl (Nat.le_of_ble_eq_true rfl) dX2_init_110 (fun H locs hw hS => ?_)
  simp only [List.set_cons_zero, List.set_cons_succ] at hw
  refine lv_aload_n hx hb dX2_init_113 rfl (lv_at hl 0 rfl) ?_
  refine zi_bipush hx hb dX2_init_114 (by decide) ?_
  refine znewa (atype := .int) hx hb (hts (.arrayClass .int) (by decide +kernel)) (ty := .int) rfl hE hS hAf hw 16 (by decide) rfl 0 rfl (N' := 11) (a0 := (11, .inl (fun _ => iI 0))) (vz_i 11) (by decide +kernel) (by decide +kernel) (by decide +kernel) (by decide +kernel) (by decide +kernel) dX2_init_116 (fun q_116 H hw hS => ?_)
  refine zputF (C := RX2) (T := TX2) (N := 19) hx hb hts hinX2 tyX2 tyX2_ok nmX2 hown hE hS hw 0 rfl rfl 16 (by decide) (hts (.fieldLink RX2 57 "FormworkYardModel" "strikes" "[I") (by decide +kernel)) rfl hin2 rfl (ty := (.array .int)) (by decide +kernel) rfl rfl (Nat.le_of_ble_eq_true rfl) dX2_init_118 (fun H locs hw hS => ?_)
  simp only [List.set_cons_zero, List.set_cons_succ] at hw
  refine lv_aload_n hx hb dX2_init_121 rfl (lv_at hl 0 rfl) ?_
  refine zi_bipush hx hb dX2_init_122 (by decide) ?_
  refine znewa (atype := .int) hx hb (hts (.arrayClass .int) (by decide +kernel)) (ty := .int) rfl hE hS hAf hw 17 (by decide) rfl 0 rfl (N' := 11) (a0 := (11, .inl (fun _ => iI 0))) (vz_i 11) (by decide +kernel) (by decide +kernel) (by decide +kernel) (by decide +kernel) (by decide +kernel) dX2_init_124 (fun q_124 H hw hS => ?_)
  refine zputF (C := RX2) (T := TX2) (N := 19) hx hb hts hinX2 tyX2 tyX2_ok nmX2 hown hE hS hw 0 rfl rfl 17 (by decide) (hts (.fieldLink RX2 60 "FormworkYardModel" "frees" "[I") (by decide +kernel)) rfl hin2 rfl (ty := (.array .int)) (by decide +kernel) rfl rfl (Nat.le_of_ble_eq_true rfl) dX2_init_126 (fun H locs hw hS => ?_)
  simp only [List.set_cons_zero, List.set_cons_succ] at hw
  refine lv_aload_n hx hb dX2_init_129 rfl (lv_at hl 0 rfl) ?_
  refine zi_sipush hx hb dX2_init_130 (by decide) ?_
  refine znewa (atype := .boolean) hx hb (hts (.arrayClass .boolean) (by decide +kernel)) (ty := .boolean) rfl hE hS hAf hw 18 (by decide) rfl 1 rfl (N' := 600) (a0 := (600, .inl (fun _ => iI 0))) (vz_b 600) (by decide +kernel) (by decide +kernel) (by decide +kernel) (by decide +kernel) (by decide +kernel) dX2_init_133 (fun q_133 H hw hS => ?_)
  refine zputF (C := RX2) (T := TX2) (N := 19) hx hb hts hinX2 tyX2 tyX2_ok nmX2 hown hE hS hw 0 rfl rfl 18 (by decide) (hts (.fieldLink RX2 63 "FormworkYardModel" "has" "[Z") (by decide +kernel)) rfl hin2 rfl (ty := (.array .boolean)) (by decide +kernel) rfl rfl (Nat.le_of_ble_eq_true rfl) dX2_init_135 (fun H locs hw hS => ?_)
  simp only [List.set_cons_zero, List.set_cons_succ] at hw
  obtain ⟨ao, hao⟩ : ∃ z, z = ad := ⟨_, rfl⟩
  subst hao
  obtain ⟨ad, had⟩ : ∃ z : Nat → Nat, z = va_up (va_up (va_up (va_up (va_up (va_up (va_up (va_up (va_up (va_up (va_up (va_up (va_up ao 1 q_8) 7 q_44) 8 q_52) 9 q_60) 10 q_68) 11 q_76) 12 q_84) 13 q_92) 14 q_100) 15 q_108) 16 q_116) 17 q_124) 18 q_133 := ⟨_, rfl⟩
  rw [← had] at hw
  have hl : lv_has ls 2 [(0, .ref (ad 0))] := by rw [show ad 0 = _ from congrFun had 0]; exact hl
  have hw : zW D A ad (mE cy ad mI0 (fun _ _ => 0)) H := hw.cong (by
    intro k
    match k with
    | 0 => rw [mE_0]; unfold mO; rw [had]; rfl
    | 1 => rfl
    | 2 => rfl
    | 3 => rfl
    | 4 => rfl
    | 5 => rfl
    | 6 => rfl
    | 7 => rfl
    | 8 => rfl
    | 9 => rfl
    | 10 => rfl
    | 11 => rfl
    | 12 => rfl
    | 13 => rfl
    | 14 => rfl
    | 15 => rfl
    | 16 => rfl
    | 17 => rfl
    | 18 => rfl
    | k + 19 => rfl)
  refine zi_const hx hb dX2_init_138 ?_
  refine lv_istore_n (lv' := [(1, .int (iI (0))), (0, .ref (ad 0))]) hx hb dX2_init_139 rfl hl (by decide) rfl (fun ls hl => ?_)
  have loop_140 : ∀ (n : Nat) (x : Nat) (mb : Nat → Nat → Int) (H : Heap) (locs : List Loc) (ls : Array Slot), 1000 - x < n → (x ≤ 1000) → (∀ r, r ≠ 1 → mb r = fun _ => 0) → (∀ j, j < x → mb 1 j = 20) → zW D A ad (mE cy ad mI0 mb) H → va_S A s.heap H locs → lv_has ls 2 [(1, .int (iI ((x : Int)))), (0, .ref (ad 0))] → W pg l en (headSpec wsX2_init ({ frames := 1, cells := 13, slots := 1787, locals := 21 })).room s mt ([.ref (ao 0)] : List Value).toArray below meth c H locs 13 1787 (MQ below (zQv (fun H1 => ∃ ad2 mb, ad2 0 = ao 0 ∧ zW D A ad2 (mE cy ad2 mI0 mb) H1 ∧ (∀ j, j < 1000 → mb 1 j = 20) ∧ ∀ r, r ≠ 1 → mb r = fun _ => 0) A) ([.ref (ao 0)] : List Value).toArray s 13 1787 A) (F0 mt 140 ls []) := by
    intro n
    induction n with
    | zero =>
      intro x mb H locs ls hm hx9 hr9 hv9
      exfalso; omega
    | succ n ih =>
      intro x mb H locs ls hm hx9 hr9 hv9 hw hS hl
      refine lv_iload_n hx hb dX2_init_140 rfl (lv_at hl 0 rfl) ?_
      refine zi_sipush hx hb dX2_init_141 (by decide) ?_
      refine zc_ge (tgt := 161) hx hb dX2_init_144 (by decide) (by first | decide | (constructor <;> omega)) (by first | decide | (constructor <;> omega)) (fun c_144 => ?_) (fun c_144 => ?_)
      · refine zvret hx hb hr hlocks hS (Nat.le_of_ble_eq_true rfl) (Nat.le_of_ble_eq_true rfl) ?_ dX2_init_161
        exact ⟨ad, _, congrFun had 0, hw, fun j hj => hv9 j (by omega), hr9⟩
      · refine lv_aload_n hx hb dX2_init_147 rfl (lv_at hl 1 rfl) ?_
        refine zget (C := RX2) (T := TX2) (N := 19) hx hb hts hinX2 hown hE hw 0 mE_0 rfl 1 (by decide) (hts (.fieldLink RX2 7 "FormworkYardModel" "temperatures" "[I") (by decide +kernel)) rfl dX2_init_148 ?_
        refine lv_iload_n hx hb dX2_init_151 rfl (lv_at hl 0 rfl) ?_
        refine zi_bipush hx hb dX2_init_152 (by decide) ?_
        refine ziast hx hb hE hS hw 1 (mE_a 1 (by decide) rfl) x rfl (by omega) (by omega) dX2_init_154 (fun H locs hw hS => ?_)
        have hw := hw.cong (mU_a 1 (by decide) rfl (x) (20))
        obtain ⟨ma_1, hma_1⟩ : ∃ z : Nat → Nat → Int, z = (va_up mb 1 (va_up (mb 1) (x) (20))) := ⟨_, rfl⟩
        rw [← hma_1] at hw
        refine zi_iinc (lv' := [(1, .int (iI ((x : Int) + 1))), (0, .ref (ad 0))]) hx hb dX2_init_155 hl (k := 0) rfl (by decide) rfl (fun ls hl => ?_)
        refine lv_goto (tgt := 140) hx hb dX2_init_158 (by decide) ?_
        have hS9 := rU_s (k := 1) (p := x) rU_r hma_1
        exact ih (x + 1) ma_1 _ _ _ (by omega) (by omega) (fun r hr => (rU_row hS9.1 hr).trans (hr9 r hr)) (fun j hj => by by_cases hj2 : j = x; (subst hj2; exact hS9.2); rw [hS9.1 1 j (Or.inr hj2)]; exact hv9 j (by omega)) hw hS (lv_sub hl [0, 1] rfl)
  exact loop_140 1001 0 (fun _ _ => 0) _ _ _ (by omega) (by omega) (fun _ _ => rfl) (fun j hj => absurd hj (Nat.not_lt_zero j)) hw hS (lv_sub hl [0, 1] rfl)
