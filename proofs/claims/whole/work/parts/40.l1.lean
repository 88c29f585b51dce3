set_option maxHeartbeats 4000000 in
set_option maxRecDepth 100000 in
theorem c_L_temperature (l : Launch) (hlf : l.stackTraces = false) (D : va_G) (cy : Nat → ClassId) (A : Nat → Prop) (ad : Nat → Nat) (ya : Nat → Nat → Int) (yi : Nat → Int) (pr : Nat → Option PS) (H0 : Heap) (fo : Nat → Int64) (h : Int) (hw : zW D A ad (yO60 cy ad ya yi pr fo) H0) (h1 : zr h) (ht : tOK (ya 0)) :
    vx_Met l yL_temperature wsL_temperature ({ frames := 9, cells := 1, slots := 6, locals := 200 }) (zPc D cy A [.ref (ad 0), .int (iI h), .ref (ad 60)] H0) (zQi (fun z H1 => ∃ fo2, zW D A ad (yO60 cy ad ya yi pr fo2) H1 ∧ ((z = 0 ∧ 0 ≤ h ∧ h < 1000 ∧ fo2 0 = (iI (ya 0 h.toNat)).toInt64) ∨ (z = 1 ∧ ¬ (0 ≤ h ∧ h < 1000)))) A) (fun _ _ _ => False) 1 6 A := by
  refine vx_ofWH (cc := cL_temperature) (maxL := 4) (ret := some .int) (hh := [(0, 9, 12, 13)]) (by decide) rfl ?_
  intro pg en s mt args below meth c s₁ B hml hv
  obtain ⟨rfl, hH, hE⟩ := hv
  subst hH
  have hx := B.exec
  have hb := B.bytes
  have hr := B.returns
  have hts := atoms_spec (ws := wsL_temperature) B.pre
  have hown : s.vm.findClass RL = some mt.cls := findClass_of_methodNamed B.named
  have hlocks := B.notSynchronized
  have htab := vx_table (x := yL_temperature) B (hts _ List.mem_cons_self)
  have hS : va_S A s.heap s.heap [] := va_S.rf
  have hl := lv_entry ([.ref (ad 0), .int (iI h), .ref (ad 60)]) (n := 4) (Nat.le_of_ble_eq_true rfl)
  rw [lg_entry_eq]
  generalize (lg_sl ([.ref (ad 0), .int (iI h), .ref (ad 60)]) ++ List.replicate (4 - (lg_sl ([.ref (ad 0), .int (iI h), .ref (ad 60)])).length) Slot.unset).toArray = ls at hl ⊢
  have hl : lv_has ls 4 [(0, .ref (ad 0)), (1, .int (iI h)), (2, .ref (ad 60))] := hl
  have hBA : ∀ q, (A q ∧ q ≠ ad 60) → A q := fun q h => h.1
  have hwP := hw.part yE_60
  refine lv_aload_n hx hb dL_temperature_0 rfl (lv_at hl 2 rfl) ?_
  refine zi_const hx hb dL_temperature_1 ?_
  refine lv_aload_n hx hb dL_temperature_2 rfl (lv_at hl 0 rfl) ?_
  refine lv_iload_n hx hb dL_temperature_3 rfl (lv_at hl 1 rfl) ?_
  by_cases hok : 0 ≤ h ∧ h < 1000
  · refine zcalliN hBA (va_runV (As := [.int (iI h)]) (rest := [.int (iI 0), .ref (ad 60)]) ⟨hx, hb, hml, hown, hts⟩ (c_X1_temperature_ok l D cy _ ad ya yi pr _ h hwP hok ht) (cwV 1 hts gL_temperature_X1_temperature rfl rfl rfl (by decide +kernel) ⟨(Nat.le_of_ble_eq_true rfl), (Nat.le_of_ble_eq_true rfl)⟩) (zPVn hBA hE hS hw (ci := 1) (k0 := 0) rfl ((up_ne _ _ (by decide)).trans yE_0)) rfl rfl hl.1 rfl (lv_room (Nat.le_of_ble_eq_true rfl)) dL_temperature_4 ⟨(Nat.le_of_ble_eq_true rfl), (Nat.le_of_ble_eq_true rfl)⟩) hS (fun z H1 locs hz hq hz1 hk1 hS => ?_)
    obtain ⟨hq1, hq2⟩ := hq
    have hw1 : zW D (fun q => A q ∧ q ≠ ad 60) ad (yE cy ad ya yi pr) H1 := by rw [hq1]; exact hwP
    have hw := hw.join hw1 rfl yE_60 hk1
    refine lv_i2l hx hb dL_temperature_7 rfl ?_
    refine zlast hx hb hE hS hw dL_temperature_8 (fun H2 locs fo2 hf2 hw hS => ?_)
    refine lv_goto (tgt := 15) hx hb dL_temperature_9 (by decide) ?_
    refine zi_const hx hb dL_temperature_15 ?_
    exact vx_ret (ziret hx hb hr hlocks hS (Nat.le_of_ble_eq_true rfl) (Nat.le_of_ble_eq_true rfl) (z := 0) (by decide) ⟨fo2, hw, Or.inl ⟨rfl, hok.1, hok.2, by rw [hf2, hq2]⟩⟩ dL_temperature_16)
  · refine zxcatch (own := RL) (name := "java/lang/IndexOutOfBoundsException") hBA (vx_runV (As := [.int (iI h)]) (rest := [.int (iI 0), .ref (ad 60)]) ⟨hx, hb, hml, hown, hts⟩ (c_x_X1_temperature l hlf D cy _ ad ya yi pr _ h hwP h1 hok) (cwV 1 hts gL_temperature_X1_temperature rfl rfl rfl (by decide +kernel) ⟨(Nat.le_of_ble_eq_true rfl), (Nat.le_of_ble_eq_true rfl)⟩) (zPVn hBA hE hS hw (ci := 1) (k0 := 0) rfl ((up_ne _ _ (by decide)).trans yE_0)) rfl rfl hl.1 rfl (lv_room (Nat.le_of_ble_eq_true rfl)) dL_temperature_4 ⟨(Nat.le_of_ble_eq_true rfl), (Nat.le_of_ble_eq_true rfl)⟩) hS hown [] ⟨0, 9, 12, 13⟩ [] htab (fun z hz => nomatch hz) (by decide) (by decide) (hts (.classLink RL 13 "java/lang/IndexOutOfBoundsException") (by decide +kernel)) (zFace_use _ (by decide +kernel) (hE.2.2.2.2.2.2.1 _ (by decide +kernel))) (fun q H1 locs hz1 hk1 hS => ?_)
    have hw := hw.grow hk1
    refine lv_astore_n (lv' := [(3, .ref q), (0, .ref (ad 0)), (1, .int (iI h)), (2, .ref (ad 60))]) hx hb dL_temperature_12 rfl hl (by decide) rfl (fun ls hl => ?_)
    refine zi_const hx hb dL_temperature_13 ?_
    exact vx_ret (ziret hx hb hr hlocks hS (Nat.le_of_ble_eq_true rfl) (Nat.le_of_ble_eq_true rfl) (z := 1) (by decide) ⟨fo, hw, Or.inr ⟨rfl, hok⟩⟩ dL_temperature_14)
