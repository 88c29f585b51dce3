set_option maxHeartbeats 4000000 in
set_option maxRecDepth 100000 in
theorem w_L_setTemperature (l : Launch) (D : va_G) (cy : Nat → ClassId) (A : Nat → Prop) (ad : Nat → Nat) (H0 : Heap) {e1 : Nat → Option va_E} {fs : List Value} {fo : Nat → Int64} (a b d : Int) (hw : zW D A ad (va_up e1 60 (some (.inl (cy 3, 1, .inr (.inl fo))))) H0) (he : e1 0 = some (.inr (1, fs))) {post : Heap → Prop} (hM : Met l yX1_setTemperature wsX1_setTemperature ({ frames := 5, cells := 0, slots := 0, locals := 114 }) (zPc D cy (fun q => A q ∧ q ≠ ad 60) [.ref (ad 0), .int (iI a), .int (iI b), .int (iI d)] H0) (zQv post (fun q => A q ∧ q ≠ ad 60)) 0 0 (fun q => A q ∧ q ≠ ad 60)) {P : (Nat → Nat) → (Nat → Option va_E) → Prop} (hp : ∀ H1, post H1 → ∃ ad2 e2, ad2 60 = ad 60 ∧ e2 60 = none ∧ zW D (fun q => A q ∧ q ≠ ad 60) ad2 e2 H1 ∧ P ad2 e2) :
    vx_Met l yL_setTemperature wsL_setTemperature ({ frames := 6, cells := 0, slots := 0, locals := 138 }) (zPc D cy A [.ref (ad 0), .int (iI a), .int (iI b), .int (iI d)] H0) (zQi (fun c H2 => c = 0 ∧ ∃ (ad2 : Nat → Nat) (e2 : Nat → Option va_E), P ad2 e2 ∧ ad2 60 = ad 60 ∧ e2 60 = none ∧ zW D A ad2 (va_up e2 60 (some (.inl (cy 3, 1, .inr (.inl fo))))) H2) A) (fun _ _ _ => False) 0 0 A := by
  refine vx_ofWH (cc := cL_setTemperature) (maxL := 5) (ret := some .int) (hh := [(0, 7, 10, 13), (0, 7, 14, 15)]) (by decide) rfl ?_
  intro pg en s mt args below meth c s₁ B hml hv
  obtain ⟨rfl, hH, hE⟩ := hv
  subst hH
  have hx := B.exec
  have hb := B.bytes
  have hr := B.returns
  have hts := atoms_spec (ws := wsL_setTemperature) B.pre
  have hown : s.vm.findClass RL = some mt.cls := findClass_of_methodNamed B.named
  have hlocks := B.notSynchronized
  have htab := vx_table (x := yL_setTemperature) B (hts _ List.mem_cons_self)
  have hS : va_S A s.heap s.heap [] := va_S.rf
  have hl := lv_entry ([.ref (ad 0), .int (iI a), .int (iI b), .int (iI d)]) (n := 5) (Nat.le_of_ble_eq_true rfl)
  rw [lg_entry_eq]
  generalize (lg_sl ([.ref (ad 0), .int (iI a), .int (iI b), .int (iI d)]) ++ List.replicate (5 - (lg_sl ([.ref (ad 0), .int (iI a), .int (iI b), .int (iI d)])).length) Slot.unset).toArray = ls at hl ⊢
  have hl : lv_has ls 5 [(0, .ref (ad 0)), (1, .int (iI a)), (2, .int (iI b)), (3, .int (iI d))] := hl
  have hBA : ∀ q, (A q ∧ q ≠ ad 60) → A q := fun q h => h.1
  refine lv_aload_n hx hb dL_setTemperature_0 rfl (lv_at hl 0 rfl) ?_
  refine lv_iload_n hx hb dL_setTemperature_1 rfl (lv_at hl 1 rfl) ?_
  refine lv_iload_n hx hb dL_setTemperature_2 rfl (lv_at hl 2 rfl) ?_
  refine lv_iload_n hx hb dL_setTemperature_3 rfl (lv_at hl 3 rfl) ?_
  refine zcallvN hBA (va_runV (As := [.int (iI a), .int (iI b), .int (iI d)]) (rest := []) ⟨hx, hb, hml, hown, hts⟩ hM (cwV 3 hts gL_setTemperature_X1_setTemperature rfl rfl rfl (by decide +kernel) ⟨(Nat.le_of_ble_eq_true rfl), (Nat.le_of_ble_eq_true rfl)⟩) (zPVn hBA hE hS hw (ci := 1) (k0 := 0) rfl ((up_ne _ _ (by decide)).trans he)) rfl rfl hl.1 rfl (lv_room (Nat.le_of_ble_eq_true rfl)) dL_setTemperature_4 ⟨(Nat.le_of_ble_eq_true rfl), (Nat.le_of_ble_eq_true rfl)⟩) hS (fun H1 locs hq hz1 hk1 hS => ?_)
  obtain ⟨ad2, e2, h60, hn60, hw1, hP⟩ := hp H1 hq
  have hw := hw.join hw1 h60 hn60 hk1
  refine lv_goto (tgt := 18) hx hb dL_setTemperature_7 (by decide) ?_
  refine zi_const hx hb dL_setTemperature_18 ?_
  exact vx_ret (ziret hx hb hr hlocks hS (Nat.le_of_ble_eq_true rfl) (Nat.le_of_ble_eq_true rfl) (z := 0) (by decide) ⟨rfl, ad2, e2, hP, h60, hn60, hw⟩ dL_setTemperature_19)

set_option maxHeartbeats 4000000 in
set_option maxRecDepth 100000 in
theorem w_L_setTemperature_1 (l : Launch) (D : va_G) (cy : Nat → ClassId) (A : Nat → Prop) (ad : Nat → Nat) (H0 : Heap) {e1 : Nat → Option va_E} {fs : List Value} {fo : Nat → Int64} (a b d : Int) (hw : zW D A ad (va_up e1 60 (some (.inl (cy 3, 1, .inr (.inl fo))))) H0) (he : e1 0 = some (.inr (1, fs))) (hM : vx_Met l yX1_setTemperature wsX1_setTemperature ({ frames := 7, cells := 1, slots := 6, locals := 114 }) (zPc D cy (fun q => A q ∧ q ≠ ad 60) [.ref (ad 0), .int (iI a), .int (iI b), .int (iI d)] H0) zN (zX "java/lang/IndexOutOfBoundsException" H0 (fun q => A q ∧ q ≠ ad 60)) 1 6 (fun q => A q ∧ q ≠ ad 60)) :
    vx_Met l yL_setTemperature wsL_setTemperature ({ frames := 8, cells := 1, slots := 6, locals := 138 }) (zPc D cy A [.ref (ad 0), .int (iI a), .int (iI b), .int (iI d)] H0) (zQi (fun c H2 => c = 1 ∧ zW D A ad (va_up e1 60 (some (.inl (cy 3, 1, .inr (.inl fo))))) H2) A) (fun _ _ _ => False) 1 6 A := by
  refine vx_ofWH (cc := cL_setTemperature) (maxL := 5) (ret := some .int) (hh := [(0, 7, 10, 13), (0, 7, 14, 15)]) (by decide) rfl ?_
  intro pg en s mt args below meth c s₁ B hml hv
  obtain ⟨rfl, hH, hE⟩ := hv
  subst hH
  have hx := B.exec
  have hb := B.bytes
  have hr := B.returns
  have hts := atoms_spec (ws := wsL_setTemperature) B.pre
  have hown : s.vm.findClass RL = some mt.cls := findClass_of_methodNamed B.named
  have hlocks := B.notSynchronized
  have htab := vx_table (x := yL_setTemperature) B (hts _ List.mem_cons_self)
  have hS : va_S A s.heap s.heap [] := va_S.rf
  have hl := lv_entry ([.ref (ad 0), .int (iI a), .int (iI b), .int (iI d)]) (n := 5) (Nat.le_of_ble_eq_true rfl)
  rw [lg_entry_eq]
  generalize (lg_sl ([.ref (ad 0), .int (iI a), .int (iI b), .int (iI d)]) ++ List.replicate (5 - (lg_sl ([.ref (ad 0), .int (iI a), .int (iI b), .int (iI d)])).length) Slot.unset).toArray = ls at hl ⊢
  have hl : lv_has ls 5 [(0, .ref (ad 0)), (1, .int (iI a)), (2, .int (iI b)), (3, .int (iI d))] := hl
  have hBA : ∀ q, (A q ∧ q ≠ ad 60) → A q := fun q h => h.1
  refine lv_aload_n hx hb dL_setTemperature_0 rfl (lv_at hl 0 rfl) ?_
  refine lv_iload_n hx hb dL_setTemperature_1 rfl (lv_at hl 1 rfl) ?_
  refine lv_iload_n hx hb dL_setTemperature_2 rfl (lv_at hl 2 rfl) ?_
  refine lv_iload_n hx hb dL_setTemperature_3 rfl (lv_at hl 3 rfl) ?_
  refine zxcatch (own := RL) (name := "java/lang/IndexOutOfBoundsException") hBA (vx_runV (As := [.int (iI a), .int (iI b), .int (iI d)]) (rest := []) ⟨hx, hb, hml, hown, hts⟩ hM (cwV 3 hts gL_setTemperature_X1_setTemperature rfl rfl rfl (by decide +kernel) ⟨(Nat.le_of_ble_eq_true rfl), (Nat.le_of_ble_eq_true rfl)⟩) (zPVn hBA hE hS hw (ci := 1) (k0 := 0) rfl ((up_ne _ _ (by decide)).trans he)) rfl rfl hl.1 rfl (lv_room (Nat.le_of_ble_eq_true rfl)) dL_setTemperature_4 ⟨(Nat.le_of_ble_eq_true rfl), (Nat.le_of_ble_eq_true rfl)⟩) hS hown [] ⟨0, 7, 10, 13⟩ [⟨0, 7, 14, 15⟩] htab (fun z hz => nomatch hz) (by decide) (by decide) (hts (.classLink RL 13 "java/lang/IndexOutOfBoundsException") (by decide +kernel)) (zFace_use _ (by decide +kernel) (hE.2.2.2.2.2.2.1 _ (by decide +kernel))) (fun q H1 locs hz1 hk1 hS => ?_)
  have hw := hw.grow hk1
  refine lv_astore (lv' := [(4, .ref q), (0, .ref (ad 0)), (1, .int (iI a)), (2, .int (iI b)), (3, .int (iI d))]) hx hb dL_setTemperature_10 hl (by decide) rfl (fun ls hl => ?_)
  refine zi_const hx hb dL_setTemperature_12 ?_
  exact vx_ret (ziret hx hb hr hlocks hS (Nat.le_of_ble_eq_true rfl) (Nat.le_of_ble_eq_true rfl) (z := 1) (by decide) ⟨rfl, hw⟩ dL_setTemperature_13)

set_option maxHeartbeats 4000000 in
set_option maxRecDepth 100000 in
theorem w_L_setTemperature_2 (l : Launch) (D : va_G) (cy : Nat → ClassId) (A : Nat → Prop) (ad : Nat → Nat) (H0 : Heap) {e1 : Nat → Option va_E} {fs : List Value} {fo : Nat → Int64} (a b d : Int) (hw : zW D A ad (va_up e1 60 (some (.inl (cy 3, 1, .inr (.inl fo))))) H0) (he : e1 0 = some (.inr (1, fs))) (hM : vx_Met l yX1_setTemperature wsX1_setTemperature ({ frames := 8, cells := 1, slots := 6, locals := 123 }) (zPc D cy (fun q => A q ∧ q ≠ ad 60) [.ref (ad 0), .int (iI a), .int (iI b), .int (iI d)] H0) zN (zX "java/lang/IllegalArgumentException" H0 (fun q => A q ∧ q ≠ ad 60)) 1 6 (fun q => A q ∧ q ≠ ad 60)) :
    vx_Met l yL_setTemperature wsL_setTemperature ({ frames := 9, cells := 1, slots := 6, locals := 147 }) (zPc D cy A [.ref (ad 0), .int (iI a), .int (iI b), .int (iI d)] H0) (zQi (fun c H2 => c = 2 ∧ zW D A ad (va_up e1 60 (some (.inl (cy 3, 1, .inr (.inl fo))))) H2) A) (fun _ _ _ => False) 1 6 A := by
  refine vx_ofWH (cc := cL_setTemperature) (maxL := 5) (ret := some .int) (hh := [(0, 7, 10, 13), (0, 7, 14, 15)]) (by decide) rfl ?_
  intro pg en s mt args below meth c s₁ B hml hv
  obtain ⟨rfl, hH, hE⟩ := hv
  subst hH
  have hx := B.exec
  have hb := B.bytes
  have hr := B.returns
  have hts := atoms_spec (ws := wsL_setTemperature) B.pre
  have hown : s.vm.findClass RL = some mt.cls := findClass_of_methodNamed B.named
  have hlocks := B.notSynchronized
  have htab := vx_table (x := yL_setTemperature) B (hts _ List.mem_cons_self)
  have hS : va_S A s.heap s.heap [] := va_S.rf
  have hl := lv_entry ([.ref (ad 0), .int (iI a), .int (iI b), .int (iI d)]) (n := 5) (Nat.le_of_ble_eq_true rfl)
  rw [lg_entry_eq]
  generalize (lg_sl ([.ref (ad 0), .int (iI a), .int (iI b), .int (iI d)]) ++ List.replicate (5 - (lg_sl ([.ref (ad 0), .int (iI a), .int (iI b), .int (iI d)])).length) Slot.unset).toArray = ls at hl ⊢
  have hl : lv_has ls 5 [(0, .ref (ad 0)), (1, .int (iI a)), (2, .int (iI b)), (3, .int (iI d))] := hl
  have hBA : ∀ q, (A q ∧ q ≠ ad 60) → A q := fun q h => h.1
  refine lv_aload_n hx hb dL_setTemperature_0 rfl (lv_at hl 0 rfl) ?_
  refine lv_iload_n hx hb dL_setTemperature_1 rfl (lv_at hl 1 rfl) ?_
  refine lv_iload_n hx hb dL_setTemperature_2 rfl (lv_at hl 2 rfl) ?_
  refine lv_iload_n hx hb dL_setTemperature_3 rfl (lv_at hl 3 rfl) ?_
  refine zxcatch (own := RL) (name := "java/lang/IllegalArgumentException") hBA (vx_runV (As := [.int (iI a), .int (iI b), .int (iI d)]) (rest := []) ⟨hx, hb, hml, hown, hts⟩ hM (cwV 3 hts gL_setTemperature_X1_setTemperature rfl rfl rfl (by decide +kernel) ⟨(Nat.le_of_ble_eq_true rfl), (Nat.le_of_ble_eq_true rfl)⟩) (zPVn hBA hE hS hw (ci := 1) (k0 := 0) rfl ((up_ne _ _ (by decide)).trans he)) rfl rfl hl.1 rfl (lv_room (Nat.le_of_ble_eq_true rfl)) dL_setTemperature_4 ⟨(Nat.le_of_ble_eq_true rfl), (Nat.le_of_ble_eq_true rfl)⟩) hS hown [⟨0, 7, 10, 13⟩] ⟨0, 7, 14, 15⟩ [] htab (by intro z hz; simp only [List.mem_cons, List.not_mem_nil, or_false] at hz; subst hz; exact Or.inr ⟨by decide, _, hts (.classLink RL 13 "java/lang/IndexOutOfBoundsException") (by decide +kernel), hE.2.2.2.2.2.1 ("java/lang/IllegalArgumentException", "java/lang/IndexOutOfBoundsException") (by decide +kernel)⟩) (by decide) (by decide) (hts (.classLink RL 15 "java/lang/IllegalArgumentException") (by decide +kernel)) (zFace_use _ (by decide +kernel) (hE.2.2.2.2.2.2.1 _ (by decide +kernel))) (fun q H1 locs hz1 hk1 hS => ?_)
  have hw := hw.grow hk1
  refine lv_astore (lv' := [(4, .ref q), (0, .ref (ad 0)), (1, .int (iI a)), (2, .int (iI b)), (3, .int (iI d))]) hx hb dL_setTemperature_14 hl (by decide) rfl (fun ls hl => ?_)
  refine zi_const hx hb dL_setTemperature_16 ?_
  exact vx_ret (ziret hx hb hr hlocks hS (Nat.le_of_ble_eq_true rfl) (Nat.le_of_ble_eq_true rfl) (z := 2) (by decide) ⟨rfl, hw⟩ dL_setTemperature_17)

set_option maxHeartbeats 4000000 in
set_option maxRecDepth 100000 in
theorem w_L_temperature (l : Launch) (D : va_G) (cy : Nat → ClassId) (A : Nat → Prop) (ad : Nat → Nat) (H0 : Heap) {e1 : Nat → Option va_E} {fs : List Value} {fo : Nat → Int64} (a : Int) (hw : zW D A ad (va_up e1 60 (some (.inl (cy 3, 1, .inr (.inl fo))))) H0) (he : e1 0 = some (.inr (1, fs))) {post : Int → Heap → Prop} (hM : Met l yX1_temperature wsX1_temperature ({ frames := 2, cells := 0, slots := 0, locals := 40 }) (zPc D cy (fun q => A q ∧ q ≠ ad 60) [.ref (ad 0), .int (iI a)] H0) (zQi post (fun q => A q ∧ q ≠ ad 60)) 0 0 (fun q => A q ∧ q ≠ ad 60)) {P : Int → (Nat → Nat) → (Nat → Option va_E) → Prop} (hp : ∀ z H1, post z H1 → ∃ ad2 e2, ad2 60 = ad 60 ∧ e2 60 = none ∧ zW D (fun q => A q ∧ q ≠ ad 60) ad2 e2 H1 ∧ P z ad2 e2) :
    vx_Met l yL_temperature wsL_temperature ({ frames := 3, cells := 0, slots := 0, locals := 61 }) (zPc D cy A [.ref (ad 0), .int (iI a), .ref (ad 60)] H0) (zQi (fun c H2 => c = 0 ∧ ∃ (z : Int) (ad2 : Nat → Nat) (e2 : Nat → Option va_E) (fo2 : Nat → Int64), zr z ∧ P z ad2 e2 ∧ fo2 0 = (iI z).toInt64 ∧ ad2 60 = ad 60 ∧ e2 60 = none ∧ zW D A ad2 (va_up e2 60 (some (.inl (cy 3, 1, .inr (.inl fo2))))) H2) A) (fun _ _ _ => False) 0 0 A := by
  refine vx_ofWH (cc := cL_temperature) (maxL := 4) (ret := some .int) (hh := [(0, 9, 12, 13)]) (by decide) rfl ?_
  intro pg en s mt args below meth c s₁ B hml hv
  obtain ⟨rfl, hH, hE⟩ := hv
  subst hH
  have hx := B.exec
  have hb := B.bytes
  have hr := B.returns
  have hts := atoms_spec (ws := wsL_temperature) B.pre
  have hown : s.vm.findClass RL = some mt.cls := findClass_of_methodNamed B.named
  have hlocks := B.notSynchronized
  have htab := vx_table (x := yL_temperature) B (hts _ List.mem_cons_self)
  have hS : va_S A s.heap s.heap [] := va_S.rf
  have hl := lv_entry ([.ref (ad 0), .int (iI a), .ref (ad 60)]) (n := 4) (Nat.le_of_ble_eq_true rfl)
  rw [lg_entry_eq]
  generalize (lg_sl ([.ref (ad 0), .int (iI a), .ref (ad 60)]) ++ List.replicate (4 - (lg_sl ([.ref (ad 0), .int (iI a), .ref (ad 60)])).length) Slot.unset).toArray = ls at hl ⊢
  have hl : lv_has ls 4 [(0, .ref (ad 0)), (1, .int (iI a)), (2, .ref (ad 60))] := hl
  have hBA : ∀ q, (A q ∧ q ≠ ad 60) → A q := fun q h => h.1
  refine lv_aload_n hx hb dL_temperature_0 rfl (lv_at hl 2 rfl) ?_
  refine zi_const hx hb dL_temperature_1 ?_
  refine lv_aload_n hx hb dL_temperature_2 rfl (lv_at hl 0 rfl) ?_
  refine lv_iload_n hx hb dL_temperature_3 rfl (lv_at hl 1 rfl) ?_
  refine zcalliN hBA (va_runV (As := [.int (iI a)]) (rest := [.int (iI 0), .ref (ad 60)]) ⟨hx, hb, hml, hown, hts⟩ hM (cwV 1 hts gL_temperature_X1_temperature rfl rfl rfl (by decide +kernel) ⟨(Nat.le_of_ble_eq_true rfl), (Nat.le_of_ble_eq_true rfl)⟩) (zPVn hBA hE hS hw (ci := 1) (k0 := 0) rfl ((up_ne _ _ (by decide)).trans he)) rfl rfl hl.1 rfl (lv_room (Nat.le_of_ble_eq_true rfl)) dL_temperature_4 ⟨(Nat.le_of_ble_eq_true rfl), (Nat.le_of_ble_eq_true rfl)⟩) hS (fun z H1 locs hz hq hz1 hk1 hS => ?_)
  obtain ⟨ad2, e2, h60, hn60, hw1, hP⟩ := hp z H1 hq
  have hw := hw.join hw1 h60 hn60 hk1
  refine lv_i2l hx hb dL_temperature_7 rfl ?_
  refine zlast hx hb hE hS hw h60 dL_temperature_8 (fun H2 locs fo2 hf2 hw hS => ?_)
  refine lv_goto (tgt := 15) hx hb dL_temperature_9 (by decide) ?_
  refine zi_const hx hb dL_temperature_15 ?_
  exact vx_ret (ziret hx hb hr hlocks hS (Nat.le_of_ble_eq_true rfl) (Nat.le_of_ble_eq_true rfl) (z := 0) (by decide) ⟨rfl, z, ad2, e2, fo2, hz, hP, hf2, h60, hn60, hw⟩ dL_temperature_16)

set_option maxHeartbeats 4000000 in
set_option maxRecDepth 100000 in
theorem w_L_temperature_1 (l : Launch) (D : va_G) (cy : Nat → ClassId) (A : Nat → Prop) (ad : Nat → Nat) (H0 : Heap) {e1 : Nat → Option va_E} {fs : List Value} {fo : Nat → Int64} (a : Int) (hw : zW D A ad (va_up e1 60 (some (.inl (cy 3, 1, .inr (.inl fo))))) H0) (he : e1 0 = some (.inr (1, fs))) (hM : vx_Met l yX1_temperature wsX1_temperature ({ frames := 7, cells := 1, slots := 6, locals := 101 }) (zPc D cy (fun q => A q ∧ q ≠ ad 60) [.ref (ad 0), .int (iI a)] H0) zN (zX "java/lang/IndexOutOfBoundsException" H0 (fun q => A q ∧ q ≠ ad 60)) 1 6 (fun q => A q ∧ q ≠ ad 60)) :
    vx_Met l yL_temperature wsL_temperature ({ frames := 8, cells := 1, slots := 6, locals := 122 }) (zPc D cy A [.ref (ad 0), .int (iI a), .ref (ad 60)] H0) (zQi (fun c H2 => c = 1 ∧ zW D A ad (va_up e1 60 (some (.inl (cy 3, 1, .inr (.inl fo))))) H2) A) (fun _ _ _ => False) 1 6 A := by
  refine vx_ofWH (cc := cL_temperature) (maxL := 4) (ret := some .int) (hh := [(0, 9, 12, 13)]) (by decide) rfl ?_
  intro pg en s mt args below meth c s₁ B hml hv
  obtain ⟨rfl, hH, hE⟩ := hv
  subst hH
  have hx := B.exec
  have hb := B.bytes
  have hr := B.returns
  have hts := atoms_spec (ws := wsL_temperature) B.pre
  have hown : s.vm.findClass RL = some mt.cls := findClass_of_methodNamed B.named
  have hlocks := B.notSynchronized
  have htab := vx_table (x := yL_temperature) B (hts _ List.mem_cons_self)
  have hS : va_S A s.heap s.heap [] := va_S.rf
  have hl := lv_entry ([.ref (ad 0), .int (iI a), .ref (ad 60)]) (n := 4) (Nat.le_of_ble_eq_true rfl)
  rw [lg_entry_eq]
  generalize (lg_sl ([.ref (ad 0), .int (iI a), .ref (ad 60)]) ++ List.replicate (4 - (lg_sl ([.ref (ad 0), .int (iI a), .ref (ad 60)])).length) Slot.unset).toArray = ls at hl ⊢
  have hl : lv_has ls 4 [(0, .ref (ad 0)), (1, .int (iI a)), (2, .ref (ad 60))] := hl
  have hBA : ∀ q, (A q ∧ q ≠ ad 60) → A q := fun q h => h.1
  refine lv_aload_n hx hb dL_temperature_0 rfl (lv_at hl 2 rfl) ?_
  refine zi_const hx hb dL_temperature_1 ?_
  refine lv_aload_n hx hb dL_temperature_2 rfl (lv_at hl 0 rfl) ?_
  refine lv_iload_n hx hb dL_temperature_3 rfl (lv_at hl 1 rfl) ?_
  refine zxcatch (own := RL) (name := "java/lang/IndexOutOfBoundsException") hBA (vx_runV (As := [.int (iI a)]) (rest := [.int (iI 0), .ref (ad 60)]) ⟨hx, hb, hml, hown, hts⟩ hM (cwV 1 hts gL_temperature_X1_temperature rfl rfl rfl (by decide +kernel) ⟨(Nat.le_of_ble_eq_true rfl), (Nat.le_of_ble_eq_true rfl)⟩) (zPVn hBA hE hS hw (ci := 1) (k0 := 0) rfl ((up_ne _ _ (by decide)).trans he)) rfl rfl hl.1 rfl (lv_room (Nat.le_of_ble_eq_true rfl)) dL_temperature_4 ⟨(Nat.le_of_ble_eq_true rfl), (Nat.le_of_ble_eq_true rfl)⟩) hS hown [] ⟨0, 9, 12, 13⟩ [] htab (fun z hz => nomatch hz) (by decide) (by decide) (hts (.classLink RL 13 "java/lang/IndexOutOfBoundsException") (by decide +kernel)) (zFace_use _ (by decide +kernel) (hE.2.2.2.2.2.2.1 _ (by decide +kernel))) (fun q H1 locs hz1 hk1 hS => ?_)
  have hw := hw.grow hk1
  refine lv_astore_n (lv' := [(3, .ref q), (0, .ref (ad 0)), (1, .int (iI a)), (2, .ref (ad 60))]) hx hb dL_temperature_12 rfl hl (by decide) rfl (fun ls hl => ?_)
  refine zi_const hx hb dL_temperature_13 ?_
  exact vx_ret (ziret hx hb hr hlocks hS (Nat.le_of_ble_eq_true rfl) (Nat.le_of_ble_eq_true rfl) (z := 1) (by decide) ⟨rfl, hw⟩ dL_temperature_14)

set_option maxHeartbeats 4000000 in
set_option maxRecDepth 100000 in
theorem w_L_maturity (l : Launch) (D : va_G) (cy : Nat → ClassId) (A : Nat → Prop) (ad : Nat → Nat) (H0 : Heap) {e1 : Nat → Option va_E} {fs : List Value} {fo : Nat → Int64} (a b : Int) (hw : zW D A ad (va_up e1 60 (some (.inl (cy 3, 1, .inr (.inl fo))))) H0) (he : e1 0 = some (.inr (1, fs))) {post : Int → Heap → Prop} (hM : Met l yX1_maturity wsX1_maturity ({ frames := 2, cells := 0, slots := 0, locals := 44 }) (zPc D cy (fun q => A q ∧ q ≠ ad 60) [.ref (ad 0), .int (iI a), .int (iI b)] H0) (zQi post (fun q => A q ∧ q ≠ ad 60)) 0 0 (fun q => A q ∧ q ≠ ad 60)) {P : Int → (Nat → Nat) → (Nat → Option va_E) → Prop} (hp : ∀ z H1, post z H1 → ∃ ad2 e2, ad2 60 = ad 60 ∧ e2 60 = none ∧ zW D (fun q => A q ∧ q ≠ ad 60) ad2 e2 H1 ∧ P z ad2 e2) :
    vx_Met l yL_maturity wsL_maturity ({ frames := 3, cells := 0, slots := 0, locals := 66 }) (zPc D cy A [.ref (ad 0), .int (iI a), .int (iI b), .ref (ad 60)] H0) (zQi (fun c H2 => c = 0 ∧ ∃ (z : Int) (ad2 : Nat → Nat) (e2 : Nat → Option va_E) (fo2 : Nat → Int64), zr z ∧ P z ad2 e2 ∧ fo2 0 = (iI z).toInt64 ∧ ad2 60 = ad 60 ∧ e2 60 = none ∧ zW D A ad2 (va_up e2 60 (some (.inl (cy 3, 1, .inr (.inl fo2))))) H2) A) (fun _ _ _ => False) 0 0 A := by
  refine vx_ofWH (cc := cL_maturity) (maxL := 5) (ret := some .int) (hh := [(0, 10, 13, 13)]) (by decide) rfl ?_
  intro pg en s mt args below meth c s₁ B hml hv
  obtain ⟨rfl, hH, hE⟩ := hv
  subst hH
  have hx := B.exec
  have hb := B.bytes
  have hr := B.returns
  have hts := atoms_spec (ws := wsL_maturity) B.pre
  have hown : s.vm.findClass RL = some mt.cls := findClass_of_methodNamed B.named
  have hlocks := B.notSynchronized
  have htab := vx_table (x := yL_maturity) B (hts _ List.mem_cons_self)
  have hS : va_S A s.heap s.heap [] := va_S.rf
  have hl := lv_entry ([.ref (ad 0), .int (iI a), .int (iI b), .ref (ad 60)]) (n := 5) (Nat.le_of_ble_eq_true rfl)
  rw [lg_entry_eq]
  generalize (lg_sl ([.ref (ad 0), .int (iI a), .int (iI b), .ref (ad 60)]) ++ List.replicate (5 - (lg_sl ([.ref (ad 0), .int (iI a), .int (iI b), .ref (ad 60)])).length) Slot.unset).toArray = ls at hl ⊢
  have hl : lv_has ls 5 [(0, .ref (ad 0)), (1, .int (iI a)), (2, .int (iI b)), (3, .ref (ad 60))] := hl
  have hBA : ∀ q, (A q ∧ q ≠ ad 60) → A q := fun q h => h.1
  refine lv_aload_n hx hb dL_maturity_0 rfl (lv_at hl 3 rfl) ?_
  refine zi_const hx hb dL_maturity_1 ?_
  refine lv_aload_n hx hb dL_maturity_2 rfl (lv_at hl 0 rfl) ?_
  refine lv_iload_n hx hb dL_maturity_3 rfl (lv_at hl 1 rfl) ?_
  refine lv_iload_n hx hb dL_maturity_4 rfl (lv_at hl 2 rfl) ?_
  refine zcalliN hBA (va_runV (As := [.int (iI a), .int (iI b)]) (rest := [.int (iI 0), .ref (ad 60)]) ⟨hx, hb, hml, hown, hts⟩ hM (cwV 2 hts gL_maturity_X1_maturity rfl rfl rfl (by decide +kernel) ⟨(Nat.le_of_ble_eq_true rfl), (Nat.le_of_ble_eq_true rfl)⟩) (zPVn hBA hE hS hw (ci := 1) (k0 := 0) rfl ((up_ne _ _ (by decide)).trans he)) rfl rfl hl.1 rfl (lv_room (Nat.le_of_ble_eq_true rfl)) dL_maturity_5 ⟨(Nat.le_of_ble_eq_true rfl), (Nat.le_of_ble_eq_true rfl)⟩) hS (fun z H1 locs hz hq hz1 hk1 hS => ?_)
  obtain ⟨ad2, e2, h60, hn60, hw1, hP⟩ := hp z H1 hq
  have hw := hw.join hw1 h60 hn60 hk1
  refine lv_i2l hx hb dL_maturity_8 rfl ?_
  refine zlast hx hb hE hS hw h60 dL_maturity_9 (fun H2 locs fo2 hf2 hw hS => ?_)
  refine lv_goto (tgt := 17) hx hb dL_maturity_10 (by decide) ?_
  refine zi_const hx hb dL_maturity_17 ?_
  exact vx_ret (ziret hx hb hr hlocks hS (Nat.le_of_ble_eq_true rfl) (Nat.le_of_ble_eq_true rfl) (z := 0) (by decide) ⟨rfl, z, ad2, e2, fo2, hz, hP, hf2, h60, hn60, hw⟩ dL_maturity_18)

set_option maxHeartbeats 4000000 in
set_option maxRecDepth 100000 in
theorem w_L_maturity_1 (l : Launch) (D : va_G) (cy : Nat → ClassId) (A : Nat → Prop) (ad : Nat → Nat) (H0 : Heap) {e1 : Nat → Option va_E} {fs : List Value} {fo : Nat → Int64} (a b : Int) (hw : zW D A ad (va_up e1 60 (some (.inl (cy 3, 1, .inr (.inl fo))))) H0) (he : e1 0 = some (.inr (1, fs))) (hM : vx_Met l yX1_maturity wsX1_maturity ({ frames := 7, cells := 1, slots := 6, locals := 101 }) (zPc D cy (fun q => A q ∧ q ≠ ad 60) [.ref (ad 0), .int (iI a), .int (iI b)] H0) zN (zX "java/lang/IndexOutOfBoundsException" H0 (fun q => A q ∧ q ≠ ad 60)) 1 6 (fun q => A q ∧ q ≠ ad 60)) :
    vx_Met l yL_maturity wsL_maturity ({ frames := 8, cells := 1, slots := 6, locals := 123 }) (zPc D cy A [.ref (ad 0), .int (iI a), .int (iI b), .ref (ad 60)] H0) (zQi (fun c H2 => c = 1 ∧ zW D A ad (va_up e1 60 (some (.inl (cy 3, 1, .inr (.inl fo))))) H2) A) (fun _ _ _ => False) 1 6 A := by
  refine vx_ofWH (cc := cL_maturity) (maxL := 5) (ret := some .int) (hh := [(0, 10, 13, 13)]) (by decide) rfl ?_
  intro pg en s mt args below meth c s₁ B hml hv
  obtain ⟨rfl, hH, hE⟩ := hv
  subst hH
  have hx := B.exec
  have hb := B.bytes
  have hr := B.returns
  have hts := atoms_spec (ws := wsL_maturity) B.pre
  have hown : s.vm.findClass RL = some mt.cls := findClass_of_methodNamed B.named
  have hlocks := B.notSynchronized
  have htab := vx_table (x := yL_maturity) B (hts _ List.mem_cons_self)
  have hS : va_S A s.heap s.heap [] := va_S.rf
  have hl := lv_entry ([.ref (ad 0), .int (iI a), .int (iI b), .ref (ad 60)]) (n := 5) (Nat.le_of_ble_eq_true rfl)
  rw [lg_entry_eq]
  generalize (lg_sl ([.ref (ad 0), .int (iI a), .int (iI b), .ref (ad 60)]) ++ List.replicate (5 - (lg_sl ([.ref (ad 0), .int (iI a), .int (iI b), .ref (ad 60)])).length) Slot.unset).toArray = ls at hl ⊢
  have hl : lv_has ls 5 [(0, .ref (ad 0)), (1, .int (iI a)), (2, .int (iI b)), (3, .ref (ad 60))] := hl
  have hBA : ∀ q, (A q ∧ q ≠ ad 60) → A q := fun q h => h.1
  refine lv_aload_n hx hb dL_maturity_0 rfl (lv_at hl 3 rfl) ?_
  refine zi_const hx hb dL_maturity_1 ?_
  refine lv_aload_n hx hb dL_maturity_2 rfl (lv_at hl 0 rfl) ?_
  refine lv_iload_n hx hb dL_maturity_3 rfl (lv_at hl 1 rfl) ?_
  refine lv_iload_n hx hb dL_maturity_4 rfl (lv_at hl 2 rfl) ?_
  refine zxcatch (own := RL) (name := "java/lang/IndexOutOfBoundsException") hBA (vx_runV (As := [.int (iI a), .int (iI b)]) (rest := [.int (iI 0), .ref (ad 60)]) ⟨hx, hb, hml, hown, hts⟩ hM (cwV 2 hts gL_maturity_X1_maturity rfl rfl rfl (by decide +kernel) ⟨(Nat.le_of_ble_eq_true rfl), (Nat.le_of_ble_eq_true rfl)⟩) (zPVn hBA hE hS hw (ci := 1) (k0 := 0) rfl ((up_ne _ _ (by decide)).trans he)) rfl rfl hl.1 rfl (lv_room (Nat.le_of_ble_eq_true rfl)) dL_maturity_5 ⟨(Nat.le_of_ble_eq_true rfl), (Nat.le_of_ble_eq_true rfl)⟩) hS hown [] ⟨0, 10, 13, 13⟩ [] htab (fun z hz => nomatch hz) (by decide) (by decide) (hts (.classLink RL 13 "java/lang/IndexOutOfBoundsException") (by decide +kernel)) (zFace_use _ (by decide +kernel) (hE.2.2.2.2.2.2.1 _ (by decide +kernel))) (fun q H1 locs hz1 hk1 hS => ?_)
  have hw := hw.grow hk1
  refine lv_astore (lv' := [(4, .ref q), (0, .ref (ad 0)), (1, .int (iI a)), (2, .int (iI b)), (3, .ref (ad 60))]) hx hb dL_maturity_13 hl (by decide) rfl (fun ls hl => ?_)
  refine zi_const hx hb dL_maturity_15 ?_
  exact vx_ret (ziret hx hb hr hlocks hS (Nat.le_of_ble_eq_true rfl) (Nat.le_of_ble_eq_true rfl) (z := 1) (by decide) ⟨rfl, hw⟩ dL_maturity_16)

set_option maxHeartbeats 4000000 in
set_option maxRecDepth 100000 in
theorem w_L_strength (l : Launch) (D : va_G) (cy : Nat → ClassId) (A : Nat → Prop) (ad : Nat → Nat) (H0 : Heap) {e1 : Nat → Option va_E} {fs : List Value} {fo : Nat → Int64} (a : Int) (hw : zW D A ad (va_up e1 60 (some (.inl (cy 3, 1, .inr (.inl fo))))) H0) (he : e1 0 = some (.inr (1, fs))) {post : Int → Heap → Prop} (hM : Met l yX1_strength wsX1_strength ({ frames := 2, cells := 0, slots := 0, locals := 42 }) (zPc D cy (fun q => A q ∧ q ≠ ad 60) [.ref (ad 0), .int (iI a)] H0) (zQi post (fun q => A q ∧ q ≠ ad 60)) 0 0 (fun q => A q ∧ q ≠ ad 60)) {P : Int → (Nat → Nat) → (Nat → Option va_E) → Prop} (hp : ∀ z H1, post z H1 → ∃ ad2 e2, ad2 60 = ad 60 ∧ e2 60 = none ∧ zW D (fun q => A q ∧ q ≠ ad 60) ad2 e2 H1 ∧ P z ad2 e2) :
    vx_Met l yL_strength wsL_strength ({ frames := 3, cells := 0, slots := 0, locals := 63 }) (zPc D cy A [.ref (ad 0), .int (iI a), .ref (ad 60)] H0) (zQi (fun c H2 => c = 0 ∧ ∃ (z : Int) (ad2 : Nat → Nat) (e2 : Nat → Option va_E) (fo2 : Nat → Int64), zr z ∧ P z ad2 e2 ∧ fo2 0 = (iI z).toInt64 ∧ ad2 60 = ad 60 ∧ e2 60 = none ∧ zW D A ad2 (va_up e2 60 (some (.inl (cy 3, 1, .inr (.inl fo2))))) H2) A) (fun _ _ _ => False) 0 0 A := by
  refine vx_ofWH (cc := cL_strength) (maxL := 4) (ret := some .int) (hh := [(0, 9, 12, 15)]) (by decide) rfl ?_
  intro pg en s mt args below meth c s₁ B hml hv
  obtain ⟨rfl, hH, hE⟩ := hv
  subst hH
  have hx := B.exec
  have hb := B.bytes
  have hr := B.returns
  have hts := atoms_spec (ws := wsL_strength) B.pre
  have hown : s.vm.findClass RL = some mt.cls := findClass_of_methodNamed B.named
  have hlocks := B.notSynchronized
  have htab := vx_table (x := yL_strength) B (hts _ List.mem_cons_self)
  have hS : va_S A s.heap s.heap [] := va_S.rf
  have hl := lv_entry ([.ref (ad 0), .int (iI a), .ref (ad 60)]) (n := 4) (Nat.le_of_ble_eq_true rfl)
  rw [lg_entry_eq]
  generalize (lg_sl ([.ref (ad 0), .int (iI a), .ref (ad 60)]) ++ List.replicate (4 - (lg_sl ([.ref (ad 0), .int (iI a), .ref (ad 60)])).length) Slot.unset).toArray = ls at hl ⊢
  have hl : lv_has ls 4 [(0, .ref (ad 0)), (1, .int (iI a)), (2, .ref (ad 60))] := hl
  have hBA : ∀ q, (A q ∧ q ≠ ad 60) → A q := fun q h => h.1
  refine lv_aload_n hx hb dL_strength_0 rfl (lv_at hl 2 rfl) ?_
  refine zi_const hx hb dL_strength_1 ?_
  refine lv_aload_n hx hb dL_strength_2 rfl (lv_at hl 0 rfl) ?_
  refine lv_iload_n hx hb dL_strength_3 rfl (lv_at hl 1 rfl) ?_
  refine zcalliN hBA (va_runV (As := [.int (iI a)]) (rest := [.int (iI 0), .ref (ad 60)]) ⟨hx, hb, hml, hown, hts⟩ hM (cwV 1 hts gL_strength_X1_strength rfl rfl rfl (by decide +kernel) ⟨(Nat.le_of_ble_eq_true rfl), (Nat.le_of_ble_eq_true rfl)⟩) (zPVn hBA hE hS hw (ci := 1) (k0 := 0) rfl ((up_ne _ _ (by decide)).trans he)) rfl rfl hl.1 rfl (lv_room (Nat.le_of_ble_eq_true rfl)) dL_strength_4 ⟨(Nat.le_of_ble_eq_true rfl), (Nat.le_of_ble_eq_true rfl)⟩) hS (fun z H1 locs hz hq hz1 hk1 hS => ?_)
  obtain ⟨ad2, e2, h60, hn60, hw1, hP⟩ := hp z H1 hq
  have hw := hw.join hw1 h60 hn60 hk1
  refine lv_i2l hx hb dL_strength_7 rfl ?_
  refine zlast hx hb hE hS hw h60 dL_strength_8 (fun H2 locs fo2 hf2 hw hS => ?_)
  refine lv_goto (tgt := 15) hx hb dL_strength_9 (by decide) ?_
  refine zi_const hx hb dL_strength_15 ?_
  exact vx_ret (ziret hx hb hr hlocks hS (Nat.le_of_ble_eq_true rfl) (Nat.le_of_ble_eq_true rfl) (z := 0) (by decide) ⟨rfl, z, ad2, e2, fo2, hz, hP, hf2, h60, hn60, hw⟩ dL_strength_16)

set_option maxHeartbeats 4000000 in
set_option maxRecDepth 100000 in
theorem w_L_strength_1 (l : Launch) (D : va_G) (cy : Nat → ClassId) (A : Nat → Prop) (ad : Nat → Nat) (H0 : Heap) {e1 : Nat → Option va_E} {fs : List Value} {fo : Nat → Int64} (a : Int) (hw : zW D A ad (va_up e1 60 (some (.inl (cy 3, 1, .inr (.inl fo))))) H0) (he : e1 0 = some (.inr (1, fs))) (hM : vx_Met l yX1_strength wsX1_strength ({ frames := 8, cells := 1, slots := 6, locals := 123 }) (zPc D cy (fun q => A q ∧ q ≠ ad 60) [.ref (ad 0), .int (iI a)] H0) zN (zX "java/lang/IllegalArgumentException" H0 (fun q => A q ∧ q ≠ ad 60)) 1 6 (fun q => A q ∧ q ≠ ad 60)) :
    vx_Met l yL_strength wsL_strength ({ frames := 9, cells := 1, slots := 6, locals := 144 }) (zPc D cy A [.ref (ad 0), .int (iI a), .ref (ad 60)] H0) (zQi (fun c H2 => c = 1 ∧ zW D A ad (va_up e1 60 (some (.inl (cy 3, 1, .inr (.inl fo))))) H2) A) (fun _ _ _ => False) 1 6 A := by
  refine vx_ofWH (cc := cL_strength) (maxL := 4) (ret := some .int) (hh := [(0, 9, 12, 15)]) (by decide) rfl ?_
  intro pg en s mt args below meth c s₁ B hml hv
  obtain ⟨rfl, hH, hE⟩ := hv
  subst hH
  have hx := B.exec
  have hb := B.bytes
  have hr := B.returns
  have hts := atoms_spec (ws := wsL_strength) B.pre
  have hown : s.vm.findClass RL = some mt.cls := findClass_of_methodNamed B.named
  have hlocks := B.notSynchronized
  have htab := vx_table (x := yL_strength) B (hts _ List.mem_cons_self)
  have hS : va_S A s.heap s.heap [] := va_S.rf
  have hl := lv_entry ([.ref (ad 0), .int (iI a), .ref (ad 60)]) (n := 4) (Nat.le_of_ble_eq_true rfl)
  rw [lg_entry_eq]
  generalize (lg_sl ([.ref (ad 0), .int (iI a), .ref (ad 60)]) ++ List.replicate (4 - (lg_sl ([.ref (ad 0), .int (iI a), .ref (ad 60)])).length) Slot.unset).toArray = ls at hl ⊢
  have hl : lv_has ls 4 [(0, .ref (ad 0)), (1, .int (iI a)), (2, .ref (ad 60))] := hl
  have hBA : ∀ q, (A q ∧ q ≠ ad 60) → A q := fun q h => h.1
  refine lv_aload_n hx hb dL_strength_0 rfl (lv_at hl 2 rfl) ?_
  refine zi_const hx hb dL_strength_1 ?_
  refine lv_aload_n hx hb dL_strength_2 rfl (lv_at hl 0 rfl) ?_
  refine lv_iload_n hx hb dL_strength_3 rfl (lv_at hl 1 rfl) ?_
  refine zxcatch (own := RL) (name := "java/lang/IllegalArgumentException") hBA (vx_runV (As := [.int (iI a)]) (rest := [.int (iI 0), .ref (ad 60)]) ⟨hx, hb, hml, hown, hts⟩ hM (cwV 1 hts gL_strength_X1_strength rfl rfl rfl (by decide +kernel) ⟨(Nat.le_of_ble_eq_true rfl), (Nat.le_of_ble_eq_true rfl)⟩) (zPVn hBA hE hS hw (ci := 1) (k0 := 0) rfl ((up_ne _ _ (by decide)).trans he)) rfl rfl hl.1 rfl (lv_room (Nat.le_of_ble_eq_true rfl)) dL_strength_4 ⟨(Nat.le_of_ble_eq_true rfl), (Nat.le_of_ble_eq_true rfl)⟩) hS hown [] ⟨0, 9, 12, 15⟩ [] htab (fun z hz => nomatch hz) (by decide) (by decide) (hts (.classLink RL 15 "java/lang/IllegalArgumentException") (by decide +kernel)) (zFace_use _ (by decide +kernel) (hE.2.2.2.2.2.2.1 _ (by decide +kernel))) (fun q H1 locs hz1 hk1 hS => ?_)
  have hw := hw.grow hk1
  refine lv_astore_n (lv' := [(3, .ref q), (0, .ref (ad 0)), (1, .int (iI a)), (2, .ref (ad 60))]) hx hb dL_strength_12 rfl hl (by decide) rfl (fun ls hl => ?_)
  refine zi_const hx hb dL_strength_13 ?_
  exact vx_ret (ziret hx hb hr hlocks hS (Nat.le_of_ble_eq_true rfl) (Nat.le_of_ble_eq_true rfl) (z := 1) (by decide) ⟨rfl, hw⟩ dL_strength_14)

set_option maxHeartbeats 4000000 in
set_option maxRecDepth 100000 in
theorem w_L_setPanels (l : Launch) (D : va_G) (cy : Nat → ClassId) (A : Nat → Prop) (ad : Nat → Nat) (H0 : Heap) {e1 : Nat → Option va_E} {fs : List Value} {fo : Nat → Int64} (a : Int) (hw : zW D A ad (va_up e1 60 (some (.inl (cy 3, 1, .inr (.inl fo))))) H0) (he : e1 0 = some (.inr (1, fs))) {post : Int → Heap → Prop} (hM : Met l yX1_setPanels wsX1_setPanels ({ frames := 2, cells := 0, slots := 0, locals := 42 }) (zPc D cy (fun q => A q ∧ q ≠ ad 60) [.ref (ad 0), .int (iI a)] H0) (zQi post (fun q => A q ∧ q ≠ ad 60)) 0 0 (fun q => A q ∧ q ≠ ad 60)) {P : Int → (Nat → Nat) → (Nat → Option va_E) → Prop} (hp : ∀ z H1, post z H1 → ∃ ad2 e2, ad2 60 = ad 60 ∧ e2 60 = none ∧ zW D (fun q => A q ∧ q ≠ ad 60) ad2 e2 H1 ∧ P z ad2 e2) :
    vx_Met l yL_setPanels wsL_setPanels ({ frames := 3, cells := 0, slots := 0, locals := 64 }) (zPc D cy A [.ref (ad 0), .int (iI a), .ref (ad 60)] H0) (zQi (fun c H2 => c = 0 ∧ ∃ (z : Int) (ad2 : Nat → Nat) (e2 : Nat → Option va_E) (fo2 : Nat → Int64), zr z ∧ P z ad2 e2 ∧ fo2 0 = (iI z).toInt64 ∧ ad2 60 = ad 60 ∧ e2 60 = none ∧ zW D A ad2 (va_up e2 60 (some (.inl (cy 3, 1, .inr (.inl fo2))))) H2) A) (fun _ _ _ => False) 0 0 A := by
  refine vx_ofWH (cc := cL_setPanels) (maxL := 4) (ret := some .int) (hh := [(0, 9, 12, 15)]) (by decide) rfl ?_
  intro pg en s mt args below meth c s₁ B hml hv
  obtain ⟨rfl, hH, hE⟩ := hv
  subst hH
  have hx := B.exec
  have hb := B.bytes
  have hr := B.returns
  have hts := atoms_spec (ws := wsL_setPanels) B.pre
  have hown : s.vm.findClass RL = some mt.cls := findClass_of_methodNamed B.named
  have hlocks := B.notSynchronized
  have htab := vx_table (x := yL_setPanels) B (hts _ List.mem_cons_self)
  have hS : va_S A s.heap s.heap [] := va_S.rf
  have hl := lv_entry ([.ref (ad 0), .int (iI a), .ref (ad 60)]) (n := 4) (Nat.le_of_ble_eq_true rfl)
  rw [lg_entry_eq]
  generalize (lg_sl ([.ref (ad 0), .int (iI a), .ref (ad 60)]) ++ List.replicate (4 - (lg_sl ([.ref (ad 0), .int (iI a), .ref (ad 60)])).length) Slot.unset).toArray = ls at hl ⊢
  have hl : lv_has ls 4 [(0, .ref (ad 0)), (1, .int (iI a)), (2, .ref (ad 60))] := hl
  have hBA : ∀ q, (A q ∧ q ≠ ad 60) → A q := fun q h => h.1
  refine lv_aload_n hx hb dL_setPanels_0 rfl (lv_at hl 2 rfl) ?_
  refine zi_const hx hb dL_setPanels_1 ?_
  refine lv_aload_n hx hb dL_setPanels_2 rfl (lv_at hl 0 rfl) ?_
  refine lv_iload_n hx hb dL_setPanels_3 rfl (lv_at hl 1 rfl) ?_
  refine zcalliN hBA (va_runV (As := [.int (iI a)]) (rest := [.int (iI 0), .ref (ad 60)]) ⟨hx, hb, hml, hown, hts⟩ hM (cwV 1 hts gL_setPanels_X1_setPanels rfl rfl rfl (by decide +kernel) ⟨(Nat.le_of_ble_eq_true rfl), (Nat.le_of_ble_eq_true rfl)⟩) (zPVn hBA hE hS hw (ci := 1) (k0 := 0) rfl ((up_ne _ _ (by decide)).trans he)) rfl rfl hl.1 rfl (lv_room (Nat.le_of_ble_eq_true rfl)) dL_setPanels_4 ⟨(Nat.le_of_ble_eq_true rfl), (Nat.le_of_ble_eq_true rfl)⟩) hS (fun z H1 locs hz hq hz1 hk1 hS => ?_)
  obtain ⟨ad2, e2, h60, hn60, hw1, hP⟩ := hp z H1 hq
  have hw := hw.join hw1 h60 hn60 hk1
  refine lv_i2l hx hb dL_setPanels_7 rfl ?_
  refine zlast hx hb hE hS hw h60 dL_setPanels_8 (fun H2 locs fo2 hf2 hw hS => ?_)
  refine lv_goto (tgt := 15) hx hb dL_setPanels_9 (by decide) ?_
  refine zi_const hx hb dL_setPanels_15 ?_
  exact vx_ret (ziret hx hb hr hlocks hS (Nat.le_of_ble_eq_true rfl) (Nat.le_of_ble_eq_true rfl) (z := 0) (by decide) ⟨rfl, z, ad2, e2, fo2, hz, hP, hf2, h60, hn60, hw⟩ dL_setPanels_16)

set_option maxHeartbeats 4000000 in
set_option maxRecDepth 100000 in
theorem w_L_setPanels_1 (l : Launch) (D : va_G) (cy : Nat → ClassId) (A : Nat → Prop) (ad : Nat → Nat) (H0 : Heap) {e1 : Nat → Option va_E} {fs : List Value} {fo : Nat → Int64} (a : Int) (hw : zW D A ad (va_up e1 60 (some (.inl (cy 3, 1, .inr (.inl fo))))) H0) (he : e1 0 = some (.inr (1, fs))) (hM : vx_Met l yX1_setPanels wsX1_setPanels ({ frames := 8, cells := 1, slots := 6, locals := 123 }) (zPc D cy (fun q => A q ∧ q ≠ ad 60) [.ref (ad 0), .int (iI a)] H0) zN (zX "java/lang/IllegalArgumentException" H0 (fun q => A q ∧ q ≠ ad 60)) 1 6 (fun q => A q ∧ q ≠ ad 60)) :
    vx_Met l yL_setPanels wsL_setPanels ({ frames := 9, cells := 1, slots := 6, locals := 145 }) (zPc D cy A [.ref (ad 0), .int (iI a), .ref (ad 60)] H0) (zQi (fun c H2 => c = 1 ∧ zW D A ad (va_up e1 60 (some (.inl (cy 3, 1, .inr (.inl fo))))) H2) A) (fun _ _ _ => False) 1 6 A := by
  refine vx_ofWH (cc := cL_setPanels) (maxL := 4) (ret := some .int) (hh := [(0, 9, 12, 15)]) (by decide) rfl ?_
  intro pg en s mt args below meth c s₁ B hml hv
  obtain ⟨rfl, hH, hE⟩ := hv
  subst hH
  have hx := B.exec
  have hb := B.bytes
  have hr := B.returns
  have hts := atoms_spec (ws := wsL_setPanels) B.pre
  have hown : s.vm.findClass RL = some mt.cls := findClass_of_methodNamed B.named
  have hlocks := B.notSynchronized
  have htab := vx_table (x := yL_setPanels) B (hts _ List.mem_cons_self)
  have hS : va_S A s.heap s.heap [] := va_S.rf
  have hl := lv_entry ([.ref (ad 0), .int (iI a), .ref (ad 60)]) (n := 4) (Nat.le_of_ble_eq_true rfl)
  rw [lg_entry_eq]
  generalize (lg_sl ([.ref (ad 0), .int (iI a), .ref (ad 60)]) ++ List.replicate (4 - (lg_sl ([.ref (ad 0), .int (iI a), .ref (ad 60)])).length) Slot.unset).toArray = ls at hl ⊢
  have hl : lv_has ls 4 [(0, .ref (ad 0)), (1, .int (iI a)), (2, .ref (ad 60))] := hl
  have hBA : ∀ q, (A q ∧ q ≠ ad 60) → A q := fun q h => h.1
  refine lv_aload_n hx hb dL_setPanels_0 rfl (lv_at hl 2 rfl) ?_
  refine zi_const hx hb dL_setPanels_1 ?_
  refine lv_aload_n hx hb dL_setPanels_2 rfl (lv_at hl 0 rfl) ?_
  refine lv_iload_n hx hb dL_setPanels_3 rfl (lv_at hl 1 rfl) ?_
  refine zxcatch (own := RL) (name := "java/lang/IllegalArgumentException") hBA (vx_runV (As := [.int (iI a)]) (rest := [.int (iI 0), .ref (ad 60)]) ⟨hx, hb, hml, hown, hts⟩ hM (cwV 1 hts gL_setPanels_X1_setPanels rfl rfl rfl (by decide +kernel) ⟨(Nat.le_of_ble_eq_true rfl), (Nat.le_of_ble_eq_true rfl)⟩) (zPVn hBA hE hS hw (ci := 1) (k0 := 0) rfl ((up_ne _ _ (by decide)).trans he)) rfl rfl hl.1 rfl (lv_room (Nat.le_of_ble_eq_true rfl)) dL_setPanels_4 ⟨(Nat.le_of_ble_eq_true rfl), (Nat.le_of_ble_eq_true rfl)⟩) hS hown [] ⟨0, 9, 12, 15⟩ [] htab (fun z hz => nomatch hz) (by decide) (by decide) (hts (.classLink RL 15 "java/lang/IllegalArgumentException") (by decide +kernel)) (zFace_use _ (by decide +kernel) (hE.2.2.2.2.2.2.1 _ (by decide +kernel))) (fun q H1 locs hz1 hk1 hS => ?_)
  have hw := hw.grow hk1
  refine lv_astore_n (lv' := [(3, .ref q), (0, .ref (ad 0)), (1, .int (iI a)), (2, .ref (ad 60))]) hx hb dL_setPanels_12 rfl hl (by decide) rfl (fun ls hl => ?_)
  refine zi_const hx hb dL_setPanels_13 ?_
  exact vx_ret (ziret hx hb hr hlocks hS (Nat.le_of_ble_eq_true rfl) (Nat.le_of_ble_eq_true rfl) (z := 1) (by decide) ⟨rfl, hw⟩ dL_setPanels_14)

set_option maxHeartbeats 4000000 in
set_option maxRecDepth 100000 in
theorem w_L_setRates (l : Launch) (D : va_G) (cy : Nat → ClassId) (A : Nat → Prop) (ad : Nat → Nat) (H0 : Heap) {e1 : Nat → Option va_E} {fs : List Value} {fo : Nat → Int64} (a b : Int) (hw : zW D A ad (va_up e1 60 (some (.inl (cy 3, 1, .inr (.inl fo))))) H0) (he : e1 0 = some (.inr (1, fs))) {post : Int → Heap → Prop} (hM : Met l yX1_setRates wsX1_setRates ({ frames := 5, cells := 0, slots := 0, locals := 114 }) (zPc D cy (fun q => A q ∧ q ≠ ad 60) [.ref (ad 0), .int (iI a), .int (iI b)] H0) (zQi post (fun q => A q ∧ q ≠ ad 60)) 0 0 (fun q => A q ∧ q ≠ ad 60)) {P : Int → (Nat → Nat) → (Nat → Option va_E) → Prop} (hp : ∀ z H1, post z H1 → ∃ ad2 e2, ad2 60 = ad 60 ∧ e2 60 = none ∧ zW D (fun q => A q ∧ q ≠ ad 60) ad2 e2 H1 ∧ P z ad2 e2) :
    vx_Met l yL_setRates wsL_setRates ({ frames := 6, cells := 0, slots := 0, locals := 136 }) (zPc D cy A [.ref (ad 0), .int (iI a), .int (iI b), .ref (ad 60)] H0) (zQi (fun c H2 => c = 0 ∧ ∃ (z : Int) (ad2 : Nat → Nat) (e2 : Nat → Option va_E) (fo2 : Nat → Int64), zr z ∧ P z ad2 e2 ∧ fo2 0 = (iI z).toInt64 ∧ ad2 60 = ad 60 ∧ e2 60 = none ∧ zW D A ad2 (va_up e2 60 (some (.inl (cy 3, 1, .inr (.inl fo2))))) H2) A) (fun _ _ _ => False) 0 0 A := by
  refine vx_ofWH (cc := cL_setRates) (maxL := 5) (ret := some .int) (hh := [(0, 10, 13, 15)]) (by decide) rfl ?_
  intro pg en s mt args below meth c s₁ B hml hv
  obtain ⟨rfl, hH, hE⟩ := hv
  subst hH
  have hx := B.exec
  have hb := B.bytes
  have hr := B.returns
  have hts := atoms_spec (ws := wsL_setRates) B.pre
  have hown : s.vm.findClass RL = some mt.cls := findClass_of_methodNamed B.named
  have hlocks := B.notSynchronized
  have htab := vx_table (x := yL_setRates) B (hts _ List.mem_cons_self)
  have hS : va_S A s.heap s.heap [] := va_S.rf
  have hl := lv_entry ([.ref (ad 0), .int (iI a), .int (iI b), .ref (ad 60)]) (n := 5) (Nat.le_of_ble_eq_true rfl)
  rw [lg_entry_eq]
  generalize (lg_sl ([.ref (ad 0), .int (iI a), .int (iI b), .ref (ad 60)]) ++ List.replicate (5 - (lg_sl ([.ref (ad 0), .int (iI a), .int (iI b), .ref (ad 60)])).length) Slot.unset).toArray = ls at hl ⊢
  have hl : lv_has ls 5 [(0, .ref (ad 0)), (1, .int (iI a)), (2, .int (iI b)), (3, .ref (ad 60))] := hl
  have hBA : ∀ q, (A q ∧ q ≠ ad 60) → A q := fun q h => h.1
  refine lv_aload_n hx hb dL_setRates_0 rfl (lv_at hl 3 rfl) ?_
  refine zi_const hx hb dL_setRates_1 ?_
  refine lv_aload_n hx hb dL_setRates_2 rfl (lv_at hl 0 rfl) ?_
  refine lv_iload_n hx hb dL_setRates_3 rfl (lv_at hl 1 rfl) ?_
  refine lv_iload_n hx hb dL_setRates_4 rfl (lv_at hl 2 rfl) ?_
  refine zcalliN hBA (va_runV (As := [.int (iI a), .int (iI b)]) (rest := [.int (iI 0), .ref (ad 60)]) ⟨hx, hb, hml, hown, hts⟩ hM (cwV 2 hts gL_setRates_X1_setRates rfl rfl rfl (by decide +kernel) ⟨(Nat.le_of_ble_eq_true rfl), (Nat.le_of_ble_eq_true rfl)⟩) (zPVn hBA hE hS hw (ci := 1) (k0 := 0) rfl ((up_ne _ _ (by decide)).trans he)) rfl rfl hl.1 rfl (lv_room (Nat.le_of_ble_eq_true rfl)) dL_setRates_5 ⟨(Nat.le_of_ble_eq_true rfl), (Nat.le_of_ble_eq_true rfl)⟩) hS (fun z H1 locs hz hq hz1 hk1 hS => ?_)
  obtain ⟨ad2, e2, h60, hn60, hw1, hP⟩ := hp z H1 hq
  have hw := hw.join hw1 h60 hn60 hk1
  refine lv_i2l hx hb dL_setRates_8 rfl ?_
  refine zlast hx hb hE hS hw h60 dL_setRates_9 (fun H2 locs fo2 hf2 hw hS => ?_)
  refine lv_goto (tgt := 17) hx hb dL_setRates_10 (by decide) ?_
  refine zi_const hx hb dL_setRates_17 ?_
  exact vx_ret (ziret hx hb hr hlocks hS (Nat.le_of_ble_eq_true rfl) (Nat.le_of_ble_eq_true rfl) (z := 0) (by decide) ⟨rfl, z, ad2, e2, fo2, hz, hP, hf2, h60, hn60, hw⟩ dL_setRates_18)

set_option maxHeartbeats 4000000 in
set_option maxRecDepth 100000 in
theorem w_L_setRates_1 (l : Launch) (D : va_G) (cy : Nat → ClassId) (A : Nat → Prop) (ad : Nat → Nat) (H0 : Heap) {e1 : Nat → Option va_E} {fs : List Value} {fo : Nat → Int64} (a b : Int) (hw : zW D A ad (va_up e1 60 (some (.inl (cy 3, 1, .inr (.inl fo))))) H0) (he : e1 0 = some (.inr (1, fs))) (hM : vx_Met l yX1_setRates wsX1_setRates ({ frames := 8, cells := 1, slots := 6, locals := 123 }) (zPc D cy (fun q => A q ∧ q ≠ ad 60) [.ref (ad 0), .int (iI a), .int (iI b)] H0) zN (zX "java/lang/IllegalArgumentException" H0 (fun q => A q ∧ q ≠ ad 60)) 1 6 (fun q => A q ∧ q ≠ ad 60)) :
    vx_Met l yL_setRates wsL_setRates ({ frames := 9, cells := 1, slots := 6, locals := 145 }) (zPc D cy A [.ref (ad 0), .int (iI a), .int (iI b), .ref (ad 60)] H0) (zQi (fun c H2 => c = 1 ∧ zW D A ad (va_up e1 60 (some (.inl (cy 3, 1, .inr (.inl fo))))) H2) A) (fun _ _ _ => False) 1 6 A := by
  refine vx_ofWH (cc := cL_setRates) (maxL := 5) (ret := some .int) (hh := [(0, 10, 13, 15)]) (by decide) rfl ?_
  intro pg en s mt args below meth c s₁ B hml hv
  obtain ⟨rfl, hH, hE⟩ := hv
  subst hH
  have hx := B.exec
  have hb := B.bytes
  have hr := B.returns
  have hts := atoms_spec (ws := wsL_setRates) B.pre
  have hown : s.vm.findClass RL = some mt.cls := findClass_of_methodNamed B.named
  have hlocks := B.notSynchronized
  have htab := vx_table (x := yL_setRates) B (hts _ List.mem_cons_self)
  have hS : va_S A s.heap s.heap [] := va_S.rf
  have hl := lv_entry ([.ref (ad 0), .int (iI a), .int (iI b), .ref (ad 60)]) (n := 5) (Nat.le_of_ble_eq_true rfl)
  rw [lg_entry_eq]
  generalize (lg_sl ([.ref (ad 0), .int (iI a), .int (iI b), .ref (ad 60)]) ++ List.replicate (5 - (lg_sl ([.ref (ad 0), .int (iI a), .int (iI b), .ref (ad 60)])).length) Slot.unset).toArray = ls at hl ⊢
  have hl : lv_has ls 5 [(0, .ref (ad 0)), (1, .int (iI a)), (2, .int (iI b)), (3, .ref (ad 60))] := hl
  have hBA : ∀ q, (A q ∧ q ≠ ad 60) → A q := fun q h => h.1
  refine lv_aload_n hx hb dL_setRates_0 rfl (lv_at hl 3 rfl) ?_
  refine zi_const hx hb dL_setRates_1 ?_
  refine lv_aload_n hx hb dL_setRates_2 rfl (lv_at hl 0 rfl) ?_
  refine lv_iload_n hx hb dL_setRates_3 rfl (lv_at hl 1 rfl) ?_
  refine lv_iload_n hx hb dL_setRates_4 rfl (lv_at hl 2 rfl) ?_
  refine zxcatch (own := RL) (name := "java/lang/IllegalArgumentException") hBA (vx_runV (As := [.int (iI a), .int (iI b)]) (rest := [.int (iI 0), .ref (ad 60)]) ⟨hx, hb, hml, hown, hts⟩ hM (cwV 2 hts gL_setRates_X1_setRates rfl rfl rfl (by decide +kernel) ⟨(Nat.le_of_ble_eq_true rfl), (Nat.le_of_ble_eq_true rfl)⟩) (zPVn hBA hE hS hw (ci := 1) (k0 := 0) rfl ((up_ne _ _ (by decide)).trans he)) rfl rfl hl.1 rfl (lv_room (Nat.le_of_ble_eq_true rfl)) dL_setRates_5 ⟨(Nat.le_of_ble_eq_true rfl), (Nat.le_of_ble_eq_true rfl)⟩) hS hown [] ⟨0, 10, 13, 15⟩ [] htab (fun z hz => nomatch hz) (by decide) (by decide) (hts (.classLink RL 15 "java/lang/IllegalArgumentException") (by decide +kernel)) (zFace_use _ (by decide +kernel) (hE.2.2.2.2.2.2.1 _ (by decide +kernel))) (fun q H1 locs hz1 hk1 hS => ?_)
  have hw := hw.grow hk1
  refine lv_astore (lv' := [(4, .ref q), (0, .ref (ad 0)), (1, .int (iI a)), (2, .int (iI b)), (3, .ref (ad 60))]) hx hb dL_setRates_13 hl (by decide) rfl (fun ls hl => ?_)
  refine zi_const hx hb dL_setRates_15 ?_
  exact vx_ret (ziret hx hb hr hlocks hS (Nat.le_of_ble_eq_true rfl) (Nat.le_of_ble_eq_true rfl) (z := 1) (by decide) ⟨rfl, hw⟩ dL_setRates_16)

set_option maxHeartbeats 4000000 in
set_option maxRecDepth 100000 in
theorem w_L_setCrew (l : Launch) (D : va_G) (cy : Nat → ClassId) (A : Nat → Prop) (ad : Nat → Nat) (H0 : Heap) {e1 : Nat → Option va_E} {fs : List Value} {fo : Nat → Int64} (a b : Int) (hw : zW D A ad (va_up e1 60 (some (.inl (cy 3, 1, .inr (.inl fo))))) H0) (he : e1 0 = some (.inr (1, fs))) {post : Heap → Prop} (hM : Met l yX1_setCrew wsX1_setCrew ({ frames := 5, cells := 0, slots := 0, locals := 114 }) (zPc D cy (fun q => A q ∧ q ≠ ad 60) [.ref (ad 0), .int (iI a), .int (iI b)] H0) (zQv post (fun q => A q ∧ q ≠ ad 60)) 0 0 (fun q => A q ∧ q ≠ ad 60)) {P : (Nat → Nat) → (Nat → Option va_E) → Prop} (hp : ∀ H1, post H1 → ∃ ad2 e2, ad2 60 = ad 60 ∧ e2 60 = none ∧ zW D (fun q => A q ∧ q ≠ ad 60) ad2 e2 H1 ∧ P ad2 e2) :
    vx_Met l yL_setCrew wsL_setCrew ({ frames := 6, cells := 0, slots := 0, locals := 136 }) (zPc D cy A [.ref (ad 0), .int (iI a), .int (iI b)] H0) (zQi (fun c H2 => c = 0 ∧ ∃ (ad2 : Nat → Nat) (e2 : Nat → Option va_E), P ad2 e2 ∧ ad2 60 = ad 60 ∧ e2 60 = none ∧ zW D A ad2 (va_up e2 60 (some (.inl (cy 3, 1, .inr (.inl fo))))) H2) A) (fun _ _ _ => False) 0 0 A := by
  refine vx_ofWH (cc := cL_setCrew) (maxL := 4) (ret := some .int) (hh := [(0, 6, 9, 15)]) (by decide) rfl ?_
  intro pg en s mt args below meth c s₁ B hml hv
  obtain ⟨rfl, hH, hE⟩ := hv
  subst hH
  have hx := B.exec
  have hb := B.bytes
  have hr := B.returns
  have hts := atoms_spec (ws := wsL_setCrew) B.pre
  have hown : s.vm.findClass RL = some mt.cls := findClass_of_methodNamed B.named
  have hlocks := B.notSynchronized
  have htab := vx_table (x := yL_setCrew) B (hts _ List.mem_cons_self)
  have hS : va_S A s.heap s.heap [] := va_S.rf
  have hl := lv_entry ([.ref (ad 0), .int (iI a), .int (iI b)]) (n := 4) (Nat.le_of_ble_eq_true rfl)
  rw [lg_entry_eq]
  generalize (lg_sl ([.ref (ad 0), .int (iI a), .int (iI b)]) ++ List.replicate (4 - (lg_sl ([.ref (ad 0), .int (iI a), .int (iI b)])).length) Slot.unset).toArray = ls at hl ⊢
  have hl : lv_has ls 4 [(0, .ref (ad 0)), (1, .int (iI a)), (2, .int (iI b))] := hl
  have hBA : ∀ q, (A q ∧ q ≠ ad 60) → A q := fun q h => h.1
  refine lv_aload_n hx hb dL_setCrew_0 rfl (lv_at hl 0 rfl) ?_
  refine lv_iload_n hx hb dL_setCrew_1 rfl (lv_at hl 1 rfl) ?_
  refine lv_iload_n hx hb dL_setCrew_2 rfl (lv_at hl 2 rfl) ?_
  refine zcallvN hBA (va_runV (As := [.int (iI a), .int (iI b)]) (rest := []) ⟨hx, hb, hml, hown, hts⟩ hM (cwV 2 hts gL_setCrew_X1_setCrew rfl rfl rfl (by decide +kernel) ⟨(Nat.le_of_ble_eq_true rfl), (Nat.le_of_ble_eq_true rfl)⟩) (zPVn hBA hE hS hw (ci := 1) (k0 := 0) rfl ((up_ne _ _ (by decide)).trans he)) rfl rfl hl.1 rfl (lv_room (Nat.le_of_ble_eq_true rfl)) dL_setCrew_3 ⟨(Nat.le_of_ble_eq_true rfl), (Nat.le_of_ble_eq_true rfl)⟩) hS (fun H1 locs hq hz1 hk1 hS => ?_)
  obtain ⟨ad2, e2, h60, hn60, hw1, hP⟩ := hp H1 hq
  have hw := hw.join hw1 h60 hn60 hk1
  refine lv_goto (tgt := 12) hx hb dL_setCrew_6 (by decide) ?_
  refine zi_const hx hb dL_setCrew_12 ?_
  exact vx_ret (ziret hx hb hr hlocks hS (Nat.le_of_ble_eq_true rfl) (Nat.le_of_ble_eq_true rfl) (z := 0) (by decide) ⟨rfl, ad2, e2, hP, h60, hn60, hw⟩ dL_setCrew_13)

set_option maxHeartbeats 4000000 in
set_option maxRecDepth 100000 in
theorem w_L_setCrew_1 (l : Launch) (D : va_G) (cy : Nat → ClassId) (A : Nat → Prop) (ad : Nat → Nat) (H0 : Heap) {e1 : Nat → Option va_E} {fs : List Value} {fo : Nat → Int64} (a b : Int) (hw : zW D A ad (va_up e1 60 (some (.inl (cy 3, 1, .inr (.inl fo))))) H0) (he : e1 0 = some (.inr (1, fs))) (hM : vx_Met l yX1_setCrew wsX1_setCrew ({ frames := 8, cells := 1, slots := 6, locals := 123 }) (zPc D cy (fun q => A q ∧ q ≠ ad 60) [.ref (ad 0), .int (iI a), .int (iI b)] H0) zN (zX "java/lang/IllegalArgumentException" H0 (fun q => A q ∧ q ≠ ad 60)) 1 6 (fun q => A q ∧ q ≠ ad 60)) :
    vx_Met l yL_setCrew wsL_setCrew ({ frames := 9, cells := 1, slots := 6, locals := 145 }) (zPc D cy A [.ref (ad 0), .int (iI a), .int (iI b)] H0) (zQi (fun c H2 => c = 1 ∧ zW D A ad (va_up e1 60 (some (.inl (cy 3, 1, .inr (.inl fo))))) H2) A) (fun _ _ _ => False) 1 6 A := by
  refine vx_ofWH (cc := cL_setCrew) (maxL := 4) (ret := some .int) (hh := [(0, 6, 9, 15)]) (by decide) rfl ?_
  intro pg en s mt args below meth c s₁ B hml hv
  obtain ⟨rfl, hH, hE⟩ := hv
  subst hH
  have hx := B.exec
  have hb := B.bytes
  have hr := B.returns
  have hts := atoms_spec (ws := wsL_setCrew) B.pre
  have hown : s.vm.findClass RL = some mt.cls := findClass_of_methodNamed B.named
  have hlocks := B.notSynchronized
  have htab := vx_table (x := yL_setCrew) B (hts _ List.mem_cons_self)
  have hS : va_S A s.heap s.heap [] := va_S.rf
  have hl := lv_entry ([.ref (ad 0), .int (iI a), .int (iI b)]) (n := 4) (Nat.le_of_ble_eq_true rfl)
  rw [lg_entry_eq]
  generalize (lg_sl ([.ref (ad 0), .int (iI a), .int (iI b)]) ++ List.replicate (4 - (lg_sl ([.ref (ad 0), .int (iI a), .int (iI b)])).length) Slot.unset).toArray = ls at hl ⊢
  have hl : lv_has ls 4 [(0, .ref (ad 0)), (1, .int (iI a)), (2, .int (iI b))] := hl
  have hBA : ∀ q, (A q ∧ q ≠ ad 60) → A q := fun q h => h.1
  refine lv_aload_n hx hb dL_setCrew_0 rfl (lv_at hl 0 rfl) ?_
  refine lv_iload_n hx hb dL_setCrew_1 rfl (lv_at hl 1 rfl) ?_
  refine lv_iload_n hx hb dL_setCrew_2 rfl (lv_at hl 2 rfl) ?_
  refine zxcatch (own := RL) (name := "java/lang/IllegalArgumentException") hBA (vx_runV (As := [.int (iI a), .int (iI b)]) (rest := []) ⟨hx, hb, hml, hown, hts⟩ hM (cwV 2 hts gL_setCrew_X1_setCrew rfl rfl rfl (by decide +kernel) ⟨(Nat.le_of_ble_eq_true rfl), (Nat.le_of_ble_eq_true rfl)⟩) (zPVn hBA hE hS hw (ci := 1) (k0 := 0) rfl ((up_ne _ _ (by decide)).trans he)) rfl rfl hl.1 rfl (lv_room (Nat.le_of_ble_eq_true rfl)) dL_setCrew_3 ⟨(Nat.le_of_ble_eq_true rfl), (Nat.le_of_ble_eq_true rfl)⟩) hS hown [] ⟨0, 6, 9, 15⟩ [] htab (fun z hz => nomatch hz) (by decide) (by decide) (hts (.classLink RL 15 "java/lang/IllegalArgumentException") (by decide +kernel)) (zFace_use _ (by decide +kernel) (hE.2.2.2.2.2.2.1 _ (by decide +kernel))) (fun q H1 locs hz1 hk1 hS => ?_)
  have hw := hw.grow hk1
  refine lv_astore_n (lv' := [(3, .ref q), (0, .ref (ad 0)), (1, .int (iI a)), (2, .int (iI b))]) hx hb dL_setCrew_9 rfl hl (by decide) rfl (fun ls hl => ?_)
  refine zi_const hx hb dL_setCrew_10 ?_
  exact vx_ret (ziret hx hb hr hlocks hS (Nat.le_of_ble_eq_true rfl) (Nat.le_of_ble_eq_true rfl) (z := 1) (by decide) ⟨rfl, hw⟩ dL_setCrew_11)

set_option maxHeartbeats 4000000 in
set_option maxRecDepth 100000 in
theorem w_L_cancel (l : Launch) (D : va_G) (cy : Nat → ClassId) (A : Nat → Prop) (ad : Nat → Nat) (H0 : Heap) {e1 : Nat → Option va_E} {fs : List Value} {fo : Nat → Int64} (a : Int) (hw : zW D A ad (va_up e1 60 (some (.inl (cy 3, 1, .inr (.inl fo))))) H0) (he : e1 0 = some (.inr (1, fs))) {post : Int → Heap → Prop} (hM : Met l yX1_cancel wsX1_cancel ({ frames := 2, cells := 0, slots := 0, locals := 42 }) (zPc D cy (fun q => A q ∧ q ≠ ad 60) [.ref (ad 0), .int (iI a)] H0) (zQi post (fun q => A q ∧ q ≠ ad 60)) 0 0 (fun q => A q ∧ q ≠ ad 60)) {P : Int → (Nat → Nat) → (Nat → Option va_E) → Prop} (hp : ∀ z H1, post z H1 → ∃ ad2 e2, ad2 60 = ad 60 ∧ e2 60 = none ∧ zW D (fun q => A q ∧ q ≠ ad 60) ad2 e2 H1 ∧ P z ad2 e2) :
    vx_Met l yL_cancel wsL_cancel ({ frames := 3, cells := 0, slots := 0, locals := 64 }) (zPc D cy A [.ref (ad 0), .int (iI a), .ref (ad 60)] H0) (zQi (fun c H2 => c = 0 ∧ ∃ (z : Int) (ad2 : Nat → Nat) (e2 : Nat → Option va_E) (fo2 : Nat → Int64), zr z ∧ P z ad2 e2 ∧ fo2 0 = (iI z).toInt64 ∧ ad2 60 = ad 60 ∧ e2 60 = none ∧ zW D A ad2 (va_up e2 60 (some (.inl (cy 3, 1, .inr (.inl fo2))))) H2) A) (fun _ _ _ => False) 0 0 A := by
  refine vx_ofWH (cc := cL_cancel) (maxL := 4) (ret := some .int) (hh := [(0, 9, 12, 47)]) (by decide) rfl ?_
  intro pg en s mt args below meth c s₁ B hml hv
  obtain ⟨rfl, hH, hE⟩ := hv
  subst hH
  have hx := B.exec
  have hb := B.bytes
  have hr := B.returns
  have hts := atoms_spec (ws := wsL_cancel) B.pre
  have hown : s.vm.findClass RL = some mt.cls := findClass_of_methodNamed B.named
  have hlocks := B.notSynchronized
  have htab := vx_table (x := yL_cancel) B (hts _ List.mem_cons_self)
  have hS : va_S A s.heap s.heap [] := va_S.rf
  have hl := lv_entry ([.ref (ad 0), .int (iI a), .ref (ad 60)]) (n := 4) (Nat.le_of_ble_eq_true rfl)
  rw [lg_entry_eq]
  generalize (lg_sl ([.ref (ad 0), .int (iI a), .ref (ad 60)]) ++ List.replicate (4 - (lg_sl ([.ref (ad 0), .int (iI a), .ref (ad 60)])).length) Slot.unset).toArray = ls at hl ⊢
  have hl : lv_has ls 4 [(0, .ref (ad 0)), (1, .int (iI a)), (2, .ref (ad 60))] := hl
  have hBA : ∀ q, (A q ∧ q ≠ ad 60) → A q := fun q h => h.1
  refine lv_aload_n hx hb dL_cancel_0 rfl (lv_at hl 2 rfl) ?_
  refine zi_const hx hb dL_cancel_1 ?_
  refine lv_aload_n hx hb dL_cancel_2 rfl (lv_at hl 0 rfl) ?_
  refine lv_iload_n hx hb dL_cancel_3 rfl (lv_at hl 1 rfl) ?_
  refine zcalliN hBA (va_runV (As := [.int (iI a)]) (rest := [.int (iI 0), .ref (ad 60)]) ⟨hx, hb, hml, hown, hts⟩ hM (cwV 1 hts gL_cancel_X1_cancel rfl rfl rfl (by decide +kernel) ⟨(Nat.le_of_ble_eq_true rfl), (Nat.le_of_ble_eq_true rfl)⟩) (zPVn hBA hE hS hw (ci := 1) (k0 := 0) rfl ((up_ne _ _ (by decide)).trans he)) rfl rfl hl.1 rfl (lv_room (Nat.le_of_ble_eq_true rfl)) dL_cancel_4 ⟨(Nat.le_of_ble_eq_true rfl), (Nat.le_of_ble_eq_true rfl)⟩) hS (fun z H1 locs hz hq hz1 hk1 hS => ?_)
  obtain ⟨ad2, e2, h60, hn60, hw1, hP⟩ := hp z H1 hq
  have hw := hw.join hw1 h60 hn60 hk1
  refine lv_i2l hx hb dL_cancel_7 rfl ?_
  refine zlast hx hb hE hS hw h60 dL_cancel_8 (fun H2 locs fo2 hf2 hw hS => ?_)
  refine lv_goto (tgt := 15) hx hb dL_cancel_9 (by decide) ?_
  refine zi_const hx hb dL_cancel_15 ?_
  exact vx_ret (ziret hx hb hr hlocks hS (Nat.le_of_ble_eq_true rfl) (Nat.le_of_ble_eq_true rfl) (z := 0) (by decide) ⟨rfl, z, ad2, e2, fo2, hz, hP, hf2, h60, hn60, hw⟩ dL_cancel_16)

set_option maxHeartbeats 4000000 in
set_option maxRecDepth 100000 in
theorem w_L_cancel_1 (l : Launch) (D : va_G) (cy : Nat → ClassId) (A : Nat → Prop) (ad : Nat → Nat) (H0 : Heap) {e1 : Nat → Option va_E} {fs : List Value} {fo : Nat → Int64} (a : Int) (hw : zW D A ad (va_up e1 60 (some (.inl (cy 3, 1, .inr (.inl fo))))) H0) (he : e1 0 = some (.inr (1, fs))) (hM : vx_Met l yX1_cancel wsX1_cancel ({ frames := 7, cells := 1, slots := 6, locals := 103 }) (zPc D cy (fun q => A q ∧ q ≠ ad 60) [.ref (ad 0), .int (iI a)] H0) zN (zX "java/util/NoSuchElementException" H0 (fun q => A q ∧ q ≠ ad 60)) 1 6 (fun q => A q ∧ q ≠ ad 60)) :
    vx_Met l yL_cancel wsL_cancel ({ frames := 8, cells := 1, slots := 6, locals := 125 }) (zPc D cy A [.ref (ad 0), .int (iI a), .ref (ad 60)] H0) (zQi (fun c H2 => c = 1 ∧ zW D A ad (va_up e1 60 (some (.inl (cy 3, 1, .inr (.inl fo))))) H2) A) (fun _ _ _ => False) 1 6 A := by
  refine vx_ofWH (cc := cL_cancel) (maxL := 4) (ret := some .int) (hh := [(0, 9, 12, 47)]) (by decide) rfl ?_
  intro pg en s mt args below meth c s₁ B hml hv
  obtain ⟨rfl, hH, hE⟩ := hv
  subst hH
  have hx := B.exec
  have hb := B.bytes
  have hr := B.returns
  have hts := atoms_spec (ws := wsL_cancel) B.pre
  have hown : s.vm.findClass RL = some mt.cls := findClass_of_methodNamed B.named
  have hlocks := B.notSynchronized
  have htab := vx_table (x := yL_cancel) B (hts _ List.mem_cons_self)
  have hS : va_S A s.heap s.heap [] := va_S.rf
  have hl := lv_entry ([.ref (ad 0), .int (iI a), .ref (ad 60)]) (n := 4) (Nat.le_of_ble_eq_true rfl)
  rw [lg_entry_eq]
  generalize (lg_sl ([.ref (ad 0), .int (iI a), .ref (ad 60)]) ++ List.replicate (4 - (lg_sl ([.ref (ad 0), .int (iI a), .ref (ad 60)])).length) Slot.unset).toArray = ls at hl ⊢
  have hl : lv_has ls 4 [(0, .ref (ad 0)), (1, .int (iI a)), (2, .ref (ad 60))] := hl
  have hBA : ∀ q, (A q ∧ q ≠ ad 60) → A q := fun q h => h.1
  refine lv_aload_n hx hb dL_cancel_0 rfl (lv_at hl 2 rfl) ?_
  refine zi_const hx hb dL_cancel_1 ?_
  refine lv_aload_n hx hb dL_cancel_2 rfl (lv_at hl 0 rfl) ?_
  refine lv_iload_n hx hb dL_cancel_3 rfl (lv_at hl 1 rfl) ?_
  refine zxcatch (own := RL) (name := "java/util/NoSuchElementException") hBA (vx_runV (As := [.int (iI a)]) (rest := [.int (iI 0), .ref (ad 60)]) ⟨hx, hb, hml, hown, hts⟩ hM (cwV 1 hts gL_cancel_X1_cancel rfl rfl rfl (by decide +kernel) ⟨(Nat.le_of_ble_eq_true rfl), (Nat.le_of_ble_eq_true rfl)⟩) (zPVn hBA hE hS hw (ci := 1) (k0 := 0) rfl ((up_ne _ _ (by decide)).trans he)) rfl rfl hl.1 rfl (lv_room (Nat.le_of_ble_eq_true rfl)) dL_cancel_4 ⟨(Nat.le_of_ble_eq_true rfl), (Nat.le_of_ble_eq_true rfl)⟩) hS hown [] ⟨0, 9, 12, 47⟩ [] htab (fun z hz => nomatch hz) (by decide) (by decide) (hts (.classLink RL 47 "java/util/NoSuchElementException") (by decide +kernel)) (zFace_use _ (by decide +kernel) (hE.2.2.2.2.2.2.1 _ (by decide +kernel))) (fun q H1 locs hz1 hk1 hS => ?_)
  have hw := hw.grow hk1
  refine lv_astore_n (lv' := [(3, .ref q), (0, .ref (ad 0)), (1, .int (iI a)), (2, .ref (ad 60))]) hx hb dL_cancel_12 rfl hl (by decide) rfl (fun ls hl => ?_)
  refine zi_const hx hb dL_cancel_13 ?_
  exact vx_ret (ziret hx hb hr hlocks hS (Nat.le_of_ble_eq_true rfl) (Nat.le_of_ble_eq_true rfl) (z := 1) (by decide) ⟨rfl, hw⟩ dL_cancel_14)

set_option maxHeartbeats 4000000 in
set_option maxRecDepth 100000 in
theorem w_L_endOf (l : Launch) (D : va_G) (cy : Nat → ClassId) (A : Nat → Prop) (ad : Nat → Nat) (H0 : Heap) {e1 : Nat → Option va_E} {fs : List Value} {fo : Nat → Int64} (a : Int) (hw : zW D A ad (va_up e1 60 (some (.inl (cy 3, 1, .inr (.inl fo))))) H0) (he : e1 0 = some (.inr (1, fs))) {post : Int → Heap → Prop} (hM : Met l yX1_endOf wsX1_endOf ({ frames := 2, cells := 0, slots := 0, locals := 42 }) (zPc D cy (fun q => A q ∧ q ≠ ad 60) [.ref (ad 0), .int (iI a)] H0) (zQi post (fun q => A q ∧ q ≠ ad 60)) 0 0 (fun q => A q ∧ q ≠ ad 60)) {P : Int → (Nat → Nat) → (Nat → Option va_E) → Prop} (hp : ∀ z H1, post z H1 → ∃ ad2 e2, ad2 60 = ad 60 ∧ e2 60 = none ∧ zW D (fun q => A q ∧ q ≠ ad 60) ad2 e2 H1 ∧ P z ad2 e2) :
    vx_Met l yL_endOf wsL_endOf ({ frames := 3, cells := 0, slots := 0, locals := 64 }) (zPc D cy A [.ref (ad 0), .int (iI a), .ref (ad 60)] H0) (zQi (fun c H2 => c = 0 ∧ ∃ (z : Int) (ad2 : Nat → Nat) (e2 : Nat → Option va_E) (fo2 : Nat → Int64), zr z ∧ P z ad2 e2 ∧ fo2 0 = (iI z).toInt64 ∧ ad2 60 = ad 60 ∧ e2 60 = none ∧ zW D A ad2 (va_up e2 60 (some (.inl (cy 3, 1, .inr (.inl fo2))))) H2) A) (fun _ _ _ => False) 0 0 A := by
  refine vx_ofWH (cc := cL_endOf) (maxL := 4) (ret := some .int) (hh := [(0, 9, 12, 47)]) (by decide) rfl ?_
  intro pg en s mt args below meth c s₁ B hml hv
  obtain ⟨rfl, hH, hE⟩ := hv
  subst hH
  have hx := B.exec
  have hb := B.bytes
  have hr := B.returns
  have hts := atoms_spec (ws := wsL_endOf) B.pre
  have hown : s.vm.findClass RL = some mt.cls := findClass_of_methodNamed B.named
  have hlocks := B.notSynchronized
  have htab := vx_table (x := yL_endOf) B (hts _ List.mem_cons_self)
  have hS : va_S A s.heap s.heap [] := va_S.rf
  have hl := lv_entry ([.ref (ad 0), .int (iI a), .ref (ad 60)]) (n := 4) (Nat.le_of_ble_eq_true rfl)
  rw [lg_entry_eq]
  generalize (lg_sl ([.ref (ad 0), .int (iI a), .ref (ad 60)]) ++ List.replicate (4 - (lg_sl ([.ref (ad 0), .int (iI a), .ref (ad 60)])).length) Slot.unset).toArray = ls at hl ⊢
  have hl : lv_has ls 4 [(0, .ref (ad 0)), (1, .int (iI a)), (2, .ref (ad 60))] := hl
  have hBA : ∀ q, (A q ∧ q ≠ ad 60) → A q := fun q h => h.1
  refine lv_aload_n hx hb dL_endOf_0 rfl (lv_at hl 2 rfl) ?_
  refine zi_const hx hb dL_endOf_1 ?_
  refine lv_aload_n hx hb dL_endOf_2 rfl (lv_at hl 0 rfl) ?_
  refine lv_iload_n hx hb dL_endOf_3 rfl (lv_at hl 1 rfl) ?_
  refine zcalliN hBA (va_runV (As := [.int (iI a)]) (rest := [.int (iI 0), .ref (ad 60)]) ⟨hx, hb, hml, hown, hts⟩ hM (cwV 1 hts gL_endOf_X1_endOf rfl rfl rfl (by decide +kernel) ⟨(Nat.le_of_ble_eq_true rfl), (Nat.le_of_ble_eq_true rfl)⟩) (zPVn hBA hE hS hw (ci := 1) (k0 := 0) rfl ((up_ne _ _ (by decide)).trans he)) rfl rfl hl.1 rfl (lv_room (Nat.le_of_ble_eq_true rfl)) dL_endOf_4 ⟨(Nat.le_of_ble_eq_true rfl), (Nat.le_of_ble_eq_true rfl)⟩) hS (fun z H1 locs hz hq hz1 hk1 hS => ?_)
  obtain ⟨ad2, e2, h60, hn60, hw1, hP⟩ := hp z H1 hq
  have hw := hw.join hw1 h60 hn60 hk1
  refine lv_i2l hx hb dL_endOf_7 rfl ?_
  refine zlast hx hb hE hS hw h60 dL_endOf_8 (fun H2 locs fo2 hf2 hw hS => ?_)
  refine lv_goto (tgt := 15) hx hb dL_endOf_9 (by decide) ?_
  refine zi_const hx hb dL_endOf_15 ?_
  exact vx_ret (ziret hx hb hr hlocks hS (Nat.le_of_ble_eq_true rfl) (Nat.le_of_ble_eq_true rfl) (z := 0) (by decide) ⟨rfl, z, ad2, e2, fo2, hz, hP, hf2, h60, hn60, hw⟩ dL_endOf_16)

set_option maxHeartbeats 4000000 in
set_option maxRecDepth 100000 in
theorem w_L_endOf_1 (l : Launch) (D : va_G) (cy : Nat → ClassId) (A : Nat → Prop) (ad : Nat → Nat) (H0 : Heap) {e1 : Nat → Option va_E} {fs : List Value} {fo : Nat → Int64} (a : Int) (hw : zW D A ad (va_up e1 60 (some (.inl (cy 3, 1, .inr (.inl fo))))) H0) (he : e1 0 = some (.inr (1, fs))) (hM : vx_Met l yX1_endOf wsX1_endOf ({ frames := 7, cells := 1, slots := 6, locals := 103 }) (zPc D cy (fun q => A q ∧ q ≠ ad 60) [.ref (ad 0), .int (iI a)] H0) zN (zX "java/util/NoSuchElementException" H0 (fun q => A q ∧ q ≠ ad 60)) 1 6 (fun q => A q ∧ q ≠ ad 60)) :
    vx_Met l yL_endOf wsL_endOf ({ frames := 8, cells := 1, slots := 6, locals := 125 }) (zPc D cy A [.ref (ad 0), .int (iI a), .ref (ad 60)] H0) (zQi (fun c H2 => c = 1 ∧ zW D A ad (va_up e1 60 (some (.inl (cy 3, 1, .inr (.inl fo))))) H2) A) (fun _ _ _ => False) 1 6 A := by
  refine vx_ofWH (cc := cL_endOf) (maxL := 4) (ret := some .int) (hh := [(0, 9, 12, 47)]) (by decide) rfl ?_
  intro pg en s mt args below meth c s₁ B hml hv
  obtain ⟨rfl, hH, hE⟩ := hv
  subst hH
  have hx := B.exec
  have hb := B.bytes
  have hr := B.returns
  have hts := atoms_spec (ws := wsL_endOf) B.pre
  have hown : s.vm.findClass RL = some mt.cls := findClass_of_methodNamed B.named
  have hlocks := B.notSynchronized
  have htab := vx_table (x := yL_endOf) B (hts _ List.mem_cons_self)
  have hS : va_S A s.heap s.heap [] := va_S.rf
  have hl := lv_entry ([.ref (ad 0), .int (iI a), .ref (ad 60)]) (n := 4) (Nat.le_of_ble_eq_true rfl)
  rw [lg_entry_eq]
  generalize (lg_sl ([.ref (ad 0), .int (iI a), .ref (ad 60)]) ++ List.replicate (4 - (lg_sl ([.ref (ad 0), .int (iI a), .ref (ad 60)])).length) Slot.unset).toArray = ls at hl ⊢
  have hl : lv_has ls 4 [(0, .ref (ad 0)), (1, .int (iI a)), (2, .ref (ad 60))] := hl
  have hBA : ∀ q, (A q ∧ q ≠ ad 60) → A q := fun q h => h.1
  refine lv_aload_n hx hb dL_endOf_0 rfl (lv_at hl 2 rfl) ?_
  refine zi_const hx hb dL_endOf_1 ?_
  refine lv_aload_n hx hb dL_endOf_2 rfl (lv_at hl 0 rfl) ?_
  refine lv_iload_n hx hb dL_endOf_3 rfl (lv_at hl 1 rfl) ?_
  refine zxcatch (own := RL) (name := "java/util/NoSuchElementException") hBA (vx_runV (As := [.int (iI a)]) (rest := [.int (iI 0), .ref (ad 60)]) ⟨hx, hb, hml, hown, hts⟩ hM (cwV 1 hts gL_endOf_X1_endOf rfl rfl rfl (by decide +kernel) ⟨(Nat.le_of_ble_eq_true rfl), (Nat.le_of_ble_eq_true rfl)⟩) (zPVn hBA hE hS hw (ci := 1) (k0 := 0) rfl ((up_ne _ _ (by decide)).trans he)) rfl rfl hl.1 rfl (lv_room (Nat.le_of_ble_eq_true rfl)) dL_endOf_4 ⟨(Nat.le_of_ble_eq_true rfl), (Nat.le_of_ble_eq_true rfl)⟩) hS hown [] ⟨0, 9, 12, 47⟩ [] htab (fun z hz => nomatch hz) (by decide) (by decide) (hts (.classLink RL 47 "java/util/NoSuchElementException") (by decide +kernel)) (zFace_use _ (by decide +kernel) (hE.2.2.2.2.2.2.1 _ (by decide +kernel))) (fun q H1 locs hz1 hk1 hS => ?_)
  have hw := hw.grow hk1
  refine lv_astore_n (lv' := [(3, .ref q), (0, .ref (ad 0)), (1, .int (iI a)), (2, .ref (ad 60))]) hx hb dL_endOf_12 rfl hl (by decide) rfl (fun ls hl => ?_)
  refine zi_const hx hb dL_endOf_13 ?_
  exact vx_ret (ziret hx hb hr hlocks hS (Nat.le_of_ble_eq_true rfl) (Nat.le_of_ble_eq_true rfl) (z := 1) (by decide) ⟨rfl, hw⟩ dL_endOf_14)

set_option maxHeartbeats 4000000 in
set_option maxRecDepth 100000 in
theorem w_L_coldJoints (l : Launch) (D : va_G) (cy : Nat → ClassId) (A : Nat → Prop) (ad : Nat → Nat) (H0 : Heap) {e1 : Nat → Option va_E} {fs : List Value} {fo : Nat → Int64} (a : Int) (hw : zW D A ad (va_up e1 60 (some (.inl (cy 3, 1, .inr (.inl fo))))) H0) (he : e1 0 = some (.inr (1, fs))) {post : Int → Heap → Prop} (hM : Met l yX1_coldJoints wsX1_coldJoints ({ frames := 2, cells := 0, slots := 0, locals := 44 }) (zPc D cy (fun q => A q ∧ q ≠ ad 60) [.ref (ad 0), .int (iI a)] H0) (zQi post (fun q => A q ∧ q ≠ ad 60)) 0 0 (fun q => A q ∧ q ≠ ad 60)) {P : Int → (Nat → Nat) → (Nat → Option va_E) → Prop} (hp : ∀ z H1, post z H1 → ∃ ad2 e2, ad2 60 = ad 60 ∧ e2 60 = none ∧ zW D (fun q => A q ∧ q ≠ ad 60) ad2 e2 H1 ∧ P z ad2 e2) :
    vx_Met l yL_coldJoints wsL_coldJoints ({ frames := 3, cells := 0, slots := 0, locals := 71 }) (zPc D cy A [.ref (ad 0), .int (iI a), .ref (ad 60)] H0) (zQi (fun c H2 => c = 0 ∧ ∃ (z : Int) (ad2 : Nat → Nat) (e2 : Nat → Option va_E) (fo2 : Nat → Int64), zr z ∧ P z ad2 e2 ∧ fo2 0 = (iI z).toInt64 ∧ ad2 60 = ad 60 ∧ e2 60 = none ∧ zW D A ad2 (va_up e2 60 (some (.inl (cy 3, 1, .inr (.inl fo2))))) H2) A) (fun _ _ _ => False) 0 0 A := by
  refine vx_ofWH (cc := cL_coldJoints) (maxL := 4) (ret := some .int) (hh := [(0, 9, 12, 47)]) (by decide) rfl ?_
  intro pg en s mt args below meth c s₁ B hml hv
  obtain ⟨rfl, hH, hE⟩ := hv
  subst hH
  have hx := B.exec
  have hb := B.bytes
  have hr := B.returns
  have hts := atoms_spec (ws := wsL_coldJoints) B.pre
  have hown : s.vm.findClass RL = some mt.cls := findClass_of_methodNamed B.named
  have hlocks := B.notSynchronized
  have htab := vx_table (x := yL_coldJoints) B (hts _ List.mem_cons_self)
  have hS : va_S A s.heap s.heap [] := va_S.rf
  have hl := lv_entry ([.ref (ad 0), .int (iI a), .ref (ad 60)]) (n := 4) (Nat.le_of_ble_eq_true rfl)
  rw [lg_entry_eq]
  generalize (lg_sl ([.ref (ad 0), .int (iI a), .ref (ad 60)]) ++ List.replicate (4 - (lg_sl ([.ref (ad 0), .int (iI a), .ref (ad 60)])).length) Slot.unset).toArray = ls at hl ⊢
  have hl : lv_has ls 4 [(0, .ref (ad 0)), (1, .int (iI a)), (2, .ref (ad 60))] := hl
  have hBA : ∀ q, (A q ∧ q ≠ ad 60) → A q := fun q h => h.1
  refine lv_aload_n hx hb dL_coldJoints_0 rfl (lv_at hl 2 rfl) ?_
  refine zi_const hx hb dL_coldJoints_1 ?_
  refine lv_aload_n hx hb dL_coldJoints_2 rfl (lv_at hl 0 rfl) ?_
  refine lv_iload_n hx hb dL_coldJoints_3 rfl (lv_at hl 1 rfl) ?_
  refine zcalliN hBA (va_runV (As := [.int (iI a)]) (rest := [.int (iI 0), .ref (ad 60)]) ⟨hx, hb, hml, hown, hts⟩ hM (cwV 1 hts gL_coldJoints_X1_coldJoints rfl rfl rfl (by decide +kernel) ⟨(Nat.le_of_ble_eq_true rfl), (Nat.le_of_ble_eq_true rfl)⟩) (zPVn hBA hE hS hw (ci := 1) (k0 := 0) rfl ((up_ne _ _ (by decide)).trans he)) rfl rfl hl.1 rfl (lv_room (Nat.le_of_ble_eq_true rfl)) dL_coldJoints_4 ⟨(Nat.le_of_ble_eq_true rfl), (Nat.le_of_ble_eq_true rfl)⟩) hS (fun z H1 locs hz hq hz1 hk1 hS => ?_)
  obtain ⟨ad2, e2, h60, hn60, hw1, hP⟩ := hp z H1 hq
  have hw := hw.join hw1 h60 hn60 hk1
  refine lv_i2l hx hb dL_coldJoints_7 rfl ?_
  refine zlast hx hb hE hS hw h60 dL_coldJoints_8 (fun H2 locs fo2 hf2 hw hS => ?_)
  refine lv_goto (tgt := 15) hx hb dL_coldJoints_9 (by decide) ?_
  refine zi_const hx hb dL_coldJoints_15 ?_
  exact vx_ret (ziret hx hb hr hlocks hS (Nat.le_of_ble_eq_true rfl) (Nat.le_of_ble_eq_true rfl) (z := 0) (by decide) ⟨rfl, z, ad2, e2, fo2, hz, hP, hf2, h60, hn60, hw⟩ dL_coldJoints_16)

set_option maxHeartbeats 4000000 in
set_option maxRecDepth 100000 in
theorem w_L_coldJoints_1 (l : Launch) (D : va_G) (cy : Nat → ClassId) (A : Nat → Prop) (ad : Nat → Nat) (H0 : Heap) {e1 : Nat → Option va_E} {fs : List Value} {fo : Nat → Int64} (a : Int) (hw : zW D A ad (va_up e1 60 (some (.inl (cy 3, 1, .inr (.inl fo))))) H0) (he : e1 0 = some (.inr (1, fs))) (hM : vx_Met l yX1_coldJoints wsX1_coldJoints ({ frames := 7, cells := 1, slots := 6, locals := 103 }) (zPc D cy (fun q => A q ∧ q ≠ ad 60) [.ref (ad 0), .int (iI a)] H0) zN (zX "java/util/NoSuchElementException" H0 (fun q => A q ∧ q ≠ ad 60)) 1 6 (fun q => A q ∧ q ≠ ad 60)) :
    vx_Met l yL_coldJoints wsL_coldJoints ({ frames := 8, cells := 1, slots := 6, locals := 130 }) (zPc D cy A [.ref (ad 0), .int (iI a), .ref (ad 60)] H0) (zQi (fun c H2 => c = 1 ∧ zW D A ad (va_up e1 60 (some (.inl (cy 3, 1, .inr (.inl fo))))) H2) A) (fun _ _ _ => False) 1 6 A := by
  refine vx_ofWH (cc := cL_coldJoints) (maxL := 4) (ret := some .int) (hh := [(0, 9, 12, 47)]) (by decide) rfl ?_
  intro pg en s mt args below meth c s₁ B hml hv
  obtain ⟨rfl, hH, hE⟩ := hv
  subst hH
  have hx := B.exec
  have hb := B.bytes
  have hr := B.returns
  have hts := atoms_spec (ws := wsL_coldJoints) B.pre
  have hown : s.vm.findClass RL = some mt.cls := findClass_of_methodNamed B.named
  have hlocks := B.notSynchronized
  have htab := vx_table (x := yL_coldJoints) B (hts _ List.mem_cons_self)
  have hS : va_S A s.heap s.heap [] := va_S.rf
  have hl := lv_entry ([.ref (ad 0), .int (iI a), .ref (ad 60)]) (n := 4) (Nat.le_of_ble_eq_true rfl)
  rw [lg_entry_eq]
  generalize (lg_sl ([.ref (ad 0), .int (iI a), .ref (ad 60)]) ++ List.replicate (4 - (lg_sl ([.ref (ad 0), .int (iI a), .ref (ad 60)])).length) Slot.unset).toArray = ls at hl ⊢
  have hl : lv_has ls 4 [(0, .ref (ad 0)), (1, .int (iI a)), (2, .ref (ad 60))] := hl
  have hBA : ∀ q, (A q ∧ q ≠ ad 60) → A q := fun q h => h.1
  refine lv_aload_n hx hb dL_coldJoints_0 rfl (lv_at hl 2 rfl) ?_
  refine zi_const hx hb dL_coldJoints_1 ?_
  refine lv_aload_n hx hb dL_coldJoints_2 rfl (lv_at hl 0 rfl) ?_
  refine lv_iload_n hx hb dL_coldJoints_3 rfl (lv_at hl 1 rfl) ?_
  refine zxcatch (own := RL) (name := "java/util/NoSuchElementException") hBA (vx_runV (As := [.int (iI a)]) (rest := [.int (iI 0), .ref (ad 60)]) ⟨hx, hb, hml, hown, hts⟩ hM (cwV 1 hts gL_coldJoints_X1_coldJoints rfl rfl rfl (by decide +kernel) ⟨(Nat.le_of_ble_eq_true rfl), (Nat.le_of_ble_eq_true rfl)⟩) (zPVn hBA hE hS hw (ci := 1) (k0 := 0) rfl ((up_ne _ _ (by decide)).trans he)) rfl rfl hl.1 rfl (lv_room (Nat.le_of_ble_eq_true rfl)) dL_coldJoints_4 ⟨(Nat.le_of_ble_eq_true rfl), (Nat.le_of_ble_eq_true rfl)⟩) hS hown [] ⟨0, 9, 12, 47⟩ [] htab (fun z hz => nomatch hz) (by decide) (by decide) (hts (.classLink RL 47 "java/util/NoSuchElementException") (by decide +kernel)) (zFace_use _ (by decide +kernel) (hE.2.2.2.2.2.2.1 _ (by decide +kernel))) (fun q H1 locs hz1 hk1 hS => ?_)
  have hw := hw.grow hk1
  refine lv_astore_n (lv' := [(3, .ref q), (0, .ref (ad 0)), (1, .int (iI a)), (2, .ref (ad 60))]) hx hb dL_coldJoints_12 rfl hl (by decide) rfl (fun ls hl => ?_)
  refine zi_const hx hb dL_coldJoints_13 ?_
  exact vx_ret (ziret hx hb hr hlocks hS (Nat.le_of_ble_eq_true rfl) (Nat.le_of_ble_eq_true rfl) (z := 1) (by decide) ⟨rfl, hw⟩ dL_coldJoints_14)

set_option maxHeartbeats 4000000 in
set_option maxRecDepth 100000 in
theorem w_L_struck (l : Launch) (D : va_G) (cy : Nat → ClassId) (A : Nat → Prop) (ad : Nat → Nat) (H0 : Heap) {e1 : Nat → Option va_E} {fs : List Value} {fo : Nat → Int64} (a : Int) (hw : zW D A ad (va_up e1 60 (some (.inl (cy 3, 1, .inr (.inl fo))))) H0) (he : e1 0 = some (.inr (1, fs))) {post : Int → Heap → Prop} (hM : Met l yX1_struck wsX1_struck ({ frames := 2, cells := 0, slots := 0, locals := 42 }) (zPc D cy (fun q => A q ∧ q ≠ ad 60) [.ref (ad 0), .int (iI a)] H0) (zQi post (fun q => A q ∧ q ≠ ad 60)) 0 0 (fun q => A q ∧ q ≠ ad 60)) {P : Int → (Nat → Nat) → (Nat → Option va_E) → Prop} (hp : ∀ z H1, post z H1 → ∃ ad2 e2, ad2 60 = ad 60 ∧ e2 60 = none ∧ zW D (fun q => A q ∧ q ≠ ad 60) ad2 e2 H1 ∧ P z ad2 e2) :
    vx_Met l yL_struck wsL_struck ({ frames := 3, cells := 0, slots := 0, locals := 64 }) (zPc D cy A [.ref (ad 0), .int (iI a), .ref (ad 60)] H0) (zQi (fun c H2 => c = 0 ∧ ∃ (z : Int) (ad2 : Nat → Nat) (e2 : Nat → Option va_E) (fo2 : Nat → Int64), zr z ∧ P z ad2 e2 ∧ fo2 0 = (iI z).toInt64 ∧ ad2 60 = ad 60 ∧ e2 60 = none ∧ zW D A ad2 (va_up e2 60 (some (.inl (cy 3, 1, .inr (.inl fo2))))) H2) A) (fun _ _ _ => False) 0 0 A := by
  refine vx_ofWH (cc := cL_struck) (maxL := 4) (ret := some .int) (hh := [(0, 9, 12, 47)]) (by decide) rfl ?_
  intro pg en s mt args below meth c s₁ B hml hv
  obtain ⟨rfl, hH, hE⟩ := hv
  subst hH
  have hx := B.exec
  have hb := B.bytes
  have hr := B.returns
  have hts := atoms_spec (ws := wsL_struck) B.pre
  have hown : s.vm.findClass RL = some mt.cls := findClass_of_methodNamed B.named
  have hlocks := B.notSynchronized
  have htab := vx_table (x := yL_struck) B (hts _ List.mem_cons_self)
  have hS : va_S A s.heap s.heap [] := va_S.rf
  have hl := lv_entry ([.ref (ad 0), .int (iI a), .ref (ad 60)]) (n := 4) (Nat.le_of_ble_eq_true rfl)
  rw [lg_entry_eq]
  generalize (lg_sl ([.ref (ad 0), .int (iI a), .ref (ad 60)]) ++ List.replicate (4 - (lg_sl ([.ref (ad 0), .int (iI a), .ref (ad 60)])).length) Slot.unset).toArray = ls at hl ⊢
  have hl : lv_has ls 4 [(0, .ref (ad 0)), (1, .int (iI a)), (2, .ref (ad 60))] := hl
  have hBA : ∀ q, (A q ∧ q ≠ ad 60) → A q := fun q h => h.1
  refine lv_aload_n hx hb dL_struck_0 rfl (lv_at hl 2 rfl) ?_
  refine zi_const hx hb dL_struck_1 ?_
  refine lv_aload_n hx hb dL_struck_2 rfl (lv_at hl 0 rfl) ?_
  refine lv_iload_n hx hb dL_struck_3 rfl (lv_at hl 1 rfl) ?_
  refine zcalliN hBA (va_runV (As := [.int (iI a)]) (rest := [.int (iI 0), .ref (ad 60)]) ⟨hx, hb, hml, hown, hts⟩ hM (cwV 1 hts gL_struck_X1_struck rfl rfl rfl (by decide +kernel) ⟨(Nat.le_of_ble_eq_true rfl), (Nat.le_of_ble_eq_true rfl)⟩) (zPVn hBA hE hS hw (ci := 1) (k0 := 0) rfl ((up_ne _ _ (by decide)).trans he)) rfl rfl hl.1 rfl (lv_room (Nat.le_of_ble_eq_true rfl)) dL_struck_4 ⟨(Nat.le_of_ble_eq_true rfl), (Nat.le_of_ble_eq_true rfl)⟩) hS (fun z H1 locs hz hq hz1 hk1 hS => ?_)
  obtain ⟨ad2, e2, h60, hn60, hw1, hP⟩ := hp z H1 hq
  have hw := hw.join hw1 h60 hn60 hk1
  refine lv_i2l hx hb dL_struck_7 rfl ?_
  refine zlast hx hb hE hS hw h60 dL_struck_8 (fun H2 locs fo2 hf2 hw hS => ?_)
  refine lv_goto (tgt := 15) hx hb dL_struck_9 (by decide) ?_
  refine zi_const hx hb dL_struck_15 ?_
  exact vx_ret (ziret hx hb hr hlocks hS (Nat.le_of_ble_eq_true rfl) (Nat.le_of_ble_eq_true rfl) (z := 0) (by decide) ⟨rfl, z, ad2, e2, fo2, hz, hP, hf2, h60, hn60, hw⟩ dL_struck_16)

set_option maxHeartbeats 4000000 in
set_option maxRecDepth 100000 in
theorem w_L_struck_1 (l : Launch) (D : va_G) (cy : Nat → ClassId) (A : Nat → Prop) (ad : Nat → Nat) (H0 : Heap) {e1 : Nat → Option va_E} {fs : List Value} {fo : Nat → Int64} (a : Int) (hw : zW D A ad (va_up e1 60 (some (.inl (cy 3, 1, .inr (.inl fo))))) H0) (he : e1 0 = some (.inr (1, fs))) (hM : vx_Met l yX1_struck wsX1_struck ({ frames := 7, cells := 1, slots := 6, locals := 103 }) (zPc D cy (fun q => A q ∧ q ≠ ad 60) [.ref (ad 0), .int (iI a)] H0) zN (zX "java/util/NoSuchElementException" H0 (fun q => A q ∧ q ≠ ad 60)) 1 6 (fun q => A q ∧ q ≠ ad 60)) :
    vx_Met l yL_struck wsL_struck ({ frames := 8, cells := 1, slots := 6, locals := 125 }) (zPc D cy A [.ref (ad 0), .int (iI a), .ref (ad 60)] H0) (zQi (fun c H2 => c = 1 ∧ zW D A ad (va_up e1 60 (some (.inl (cy 3, 1, .inr (.inl fo))))) H2) A) (fun _ _ _ => False) 1 6 A := by
  refine vx_ofWH (cc := cL_struck) (maxL := 4) (ret := some .int) (hh := [(0, 9, 12, 47)]) (by decide) rfl ?_
  intro pg en s mt args below meth c s₁ B hml hv
  obtain ⟨rfl, hH, hE⟩ := hv
  subst hH
  have hx := B.exec
  have hb := B.bytes
  have hr := B.returns
  have hts := atoms_spec (ws := wsL_struck) B.pre
  have hown : s.vm.findClass RL = some mt.cls := findClass_of_methodNamed B.named
  have hlocks := B.notSynchronized
  have htab := vx_table (x := yL_struck) B (hts _ List.mem_cons_self)
  have hS : va_S A s.heap s.heap [] := va_S.rf
  have hl := lv_entry ([.ref (ad 0), .int (iI a), .ref (ad 60)]) (n := 4) (Nat.le_of_ble_eq_true rfl)
  rw [lg_entry_eq]
  generalize (lg_sl ([.ref (ad 0), .int (iI a), .ref (ad 60)]) ++ List.replicate (4 - (lg_sl ([.ref (ad 0), .int (iI a), .ref (ad 60)])).length) Slot.unset).toArray = ls at hl ⊢
  have hl : lv_has ls 4 [(0, .ref (ad 0)), (1, .int (iI a)), (2, .ref (ad 60))] := hl
  have hBA : ∀ q, (A q ∧ q ≠ ad 60) → A q := fun q h => h.1
  refine lv_aload_n hx hb dL_struck_0 rfl (lv_at hl 2 rfl) ?_
  refine zi_const hx hb dL_struck_1 ?_
  refine lv_aload_n hx hb dL_struck_2 rfl (lv_at hl 0 rfl) ?_
  refine lv_iload_n hx hb dL_struck_3 rfl (lv_at hl 1 rfl) ?_
  refine zxcatch (own := RL) (name := "java/util/NoSuchElementException") hBA (vx_runV (As := [.int (iI a)]) (rest := [.int (iI 0), .ref (ad 60)]) ⟨hx, hb, hml, hown, hts⟩ hM (cwV 1 hts gL_struck_X1_struck rfl rfl rfl (by decide +kernel) ⟨(Nat.le_of_ble_eq_true rfl), (Nat.le_of_ble_eq_true rfl)⟩) (zPVn hBA hE hS hw (ci := 1) (k0 := 0) rfl ((up_ne _ _ (by decide)).trans he)) rfl rfl hl.1 rfl (lv_room (Nat.le_of_ble_eq_true rfl)) dL_struck_4 ⟨(Nat.le_of_ble_eq_true rfl), (Nat.le_of_ble_eq_true rfl)⟩) hS hown [] ⟨0, 9, 12, 47⟩ [] htab (fun z hz => nomatch hz) (by decide) (by decide) (hts (.classLink RL 47 "java/util/NoSuchElementException") (by decide +kernel)) (zFace_use _ (by decide +kernel) (hE.2.2.2.2.2.2.1 _ (by decide +kernel))) (fun q H1 locs hz1 hk1 hS => ?_)
  have hw := hw.grow hk1
  refine lv_astore_n (lv' := [(3, .ref q), (0, .ref (ad 0)), (1, .int (iI a)), (2, .ref (ad 60))]) hx hb dL_struck_12 rfl hl (by decide) rfl (fun ls hl => ?_)
  refine zi_const hx hb dL_struck_13 ?_
  exact vx_ret (ziret hx hb hr hlocks hS (Nat.le_of_ble_eq_true rfl) (Nat.le_of_ble_eq_true rfl) (z := 1) (by decide) ⟨rfl, hw⟩ dL_struck_14)

set_option maxHeartbeats 4000000 in
set_option maxRecDepth 100000 in
theorem w_L_freeFrom (l : Launch) (D : va_G) (cy : Nat → ClassId) (A : Nat → Prop) (ad : Nat → Nat) (H0 : Heap) {e1 : Nat → Option va_E} {fs : List Value} {fo : Nat → Int64} (a : Int) (hw : zW D A ad (va_up e1 60 (some (.inl (cy 3, 1, .inr (.inl fo))))) H0) (he : e1 0 = some (.inr (1, fs))) {post : Int → Heap → Prop} (hM : Met l yX1_freeFrom wsX1_freeFrom ({ frames := 2, cells := 0, slots := 0, locals := 42 }) (zPc D cy (fun q => A q ∧ q ≠ ad 60) [.ref (ad 0), .int (iI a)] H0) (zQi post (fun q => A q ∧ q ≠ ad 60)) 0 0 (fun q => A q ∧ q ≠ ad 60)) {P : Int → (Nat → Nat) → (Nat → Option va_E) → Prop} (hp : ∀ z H1, post z H1 → ∃ ad2 e2, ad2 60 = ad 60 ∧ e2 60 = none ∧ zW D (fun q => A q ∧ q ≠ ad 60) ad2 e2 H1 ∧ P z ad2 e2) :
    vx_Met l yL_freeFrom wsL_freeFrom ({ frames := 3, cells := 0, slots := 0, locals := 64 }) (zPc D cy A [.ref (ad 0), .int (iI a), .ref (ad 60)] H0) (zQi (fun c H2 => c = 0 ∧ ∃ (z : Int) (ad2 : Nat → Nat) (e2 : Nat → Option va_E) (fo2 : Nat → Int64), zr z ∧ P z ad2 e2 ∧ fo2 0 = (iI z).toInt64 ∧ ad2 60 = ad 60 ∧ e2 60 = none ∧ zW D A ad2 (va_up e2 60 (some (.inl (cy 3, 1, .inr (.inl fo2))))) H2) A) (fun _ _ _ => False) 0 0 A := by
  refine vx_ofWH (cc := cL_freeFrom) (maxL := 4) (ret := some .int) (hh := [(0, 9, 12, 47)]) (by decide) rfl ?_
  intro pg en s mt args below meth c s₁ B hml hv
  obtain ⟨rfl, hH, hE⟩ := hv
  subst hH
  have hx := B.exec
  have hb := B.bytes
  have hr := B.returns
  have hts := atoms_spec (ws := wsL_freeFrom) B.pre
  have hown : s.vm.findClass RL = some mt.cls := findClass_of_methodNamed B.named
  have hlocks := B.notSynchronized
  have htab := vx_table (x := yL_freeFrom) B (hts _ List.mem_cons_self)
  have hS : va_S A s.heap s.heap [] := va_S.rf
  have hl := lv_entry ([.ref (ad 0), .int (iI a), .ref (ad 60)]) (n := 4) (Nat.le_of_ble_eq_true rfl)
  rw [lg_entry_eq]
  generalize (lg_sl ([.ref (ad 0), .int (iI a), .ref (ad 60)]) ++ List.replicate (4 - (lg_sl ([.ref (ad 0), .int (iI a), .ref (ad 60)])).length) Slot.unset).toArray = ls at hl ⊢
  have hl : lv_has ls 4 [(0, .ref (ad 0)), (1, .int (iI a)), (2, .ref (ad 60))] := hl
  have hBA : ∀ q, (A q ∧ q ≠ ad 60) → A q := fun q h => h.1
  refine lv_aload_n hx hb dL_freeFrom_0 rfl (lv_at hl 2 rfl) ?_
  refine zi_const hx hb dL_freeFrom_1 ?_
  refine lv_aload_n hx hb dL_freeFrom_2 rfl (lv_at hl 0 rfl) ?_
  refine lv_iload_n hx hb dL_freeFrom_3 rfl (lv_at hl 1 rfl) ?_
  refine zcalliN hBA (va_runV (As := [.int (iI a)]) (rest := [.int (iI 0), .ref (ad 60)]) ⟨hx, hb, hml, hown, hts⟩ hM (cwV 1 hts gL_freeFrom_X1_freeFrom rfl rfl rfl (by decide +kernel) ⟨(Nat.le_of_ble_eq_true rfl), (Nat.le_of_ble_eq_true rfl)⟩) (zPVn hBA hE hS hw (ci := 1) (k0 := 0) rfl ((up_ne _ _ (by decide)).trans he)) rfl rfl hl.1 rfl (lv_room (Nat.le_of_ble_eq_true rfl)) dL_freeFrom_4 ⟨(Nat.le_of_ble_eq_true rfl), (Nat.le_of_ble_eq_true rfl)⟩) hS (fun z H1 locs hz hq hz1 hk1 hS => ?_)
  obtain ⟨ad2, e2, h60, hn60, hw1, hP⟩ := hp z H1 hq
  have hw := hw.join hw1 h60 hn60 hk1
  refine lv_i2l hx hb dL_freeFrom_7 rfl ?_
  refine zlast hx hb hE hS hw h60 dL_freeFrom_8 (fun H2 locs fo2 hf2 hw hS => ?_)
  refine lv_goto (tgt := 15) hx hb dL_freeFrom_9 (by decide) ?_
  refine zi_const hx hb dL_freeFrom_15 ?_
  exact vx_ret (ziret hx hb hr hlocks hS (Nat.le_of_ble_eq_true rfl) (Nat.le_of_ble_eq_true rfl) (z := 0) (by decide) ⟨rfl, z, ad2, e2, fo2, hz, hP, hf2, h60, hn60, hw⟩ dL_freeFrom_16)

set_option maxHeartbeats 4000000 in
set_option maxRecDepth 100000 in
theorem w_L_freeFrom_1 (l : Launch) (D : va_G) (cy : Nat → ClassId) (A : Nat → Prop) (ad : Nat → Nat) (H0 : Heap) {e1 : Nat → Option va_E} {fs : List Value} {fo : Nat → Int64} (a : Int) (hw : zW D A ad (va_up e1 60 (some (.inl (cy 3, 1, .inr (.inl fo))))) H0) (he : e1 0 = some (.inr (1, fs))) (hM : vx_Met l yX1_freeFrom wsX1_freeFrom ({ frames := 7, cells := 1, slots := 6, locals := 103 }) (zPc D cy (fun q => A q ∧ q ≠ ad 60) [.ref (ad 0), .int (iI a)] H0) zN (zX "java/util/NoSuchElementException" H0 (fun q => A q ∧ q ≠ ad 60)) 1 6 (fun q => A q ∧ q ≠ ad 60)) :
    vx_Met l yL_freeFrom wsL_freeFrom ({ frames := 8, cells := 1, slots := 6, locals := 125 }) (zPc D cy A [.ref (ad 0), .int (iI a), .ref (ad 60)] H0) (zQi (fun c H2 => c = 1 ∧ zW D A ad (va_up e1 60 (some (.inl (cy 3, 1, .inr (.inl fo))))) H2) A) (fun _ _ _ => False) 1 6 A := by
  refine vx_ofWH (cc := cL_freeFrom) (maxL := 4) (ret := some .int) (hh := [(0, 9, 12, 47)]) (by decide) rfl ?_
  intro pg en s mt args below meth c s₁ B hml hv
  obtain ⟨rfl, hH, hE⟩ := hv
  subst hH
  have hx := B.exec
  have hb := B.bytes
  have hr := B.returns
  have hts := atoms_spec (ws := wsL_freeFrom) B.pre
  have hown : s.vm.findClass RL = some mt.cls := findClass_of_methodNamed B.named
  have hlocks := B.notSynchronized
  have htab := vx_table (x := yL_freeFrom) B (hts _ List.mem_cons_self)
  have hS : va_S A s.heap s.heap [] := va_S.rf
  have hl := lv_entry ([.ref (ad 0), .int (iI a), .ref (ad 60)]) (n := 4) (Nat.le_of_ble_eq_true rfl)
  rw [lg_entry_eq]
  generalize (lg_sl ([.ref (ad 0), .int (iI a), .ref (ad 60)]) ++ List.replicate (4 - (lg_sl ([.ref (ad 0), .int (iI a), .ref (ad 60)])).length) Slot.unset).toArray = ls at hl ⊢
  have hl : lv_has ls 4 [(0, .ref (ad 0)), (1, .int (iI a)), (2, .ref (ad 60))] := hl
  have hBA : ∀ q, (A q ∧ q ≠ ad 60) → A q := fun q h => h.1
  refine lv_aload_n hx hb dL_freeFrom_0 rfl (lv_at hl 2 rfl) ?_
  refine zi_const hx hb dL_freeFrom_1 ?_
  refine lv_aload_n hx hb dL_freeFrom_2 rfl (lv_at hl 0 rfl) ?_
  refine lv_iload_n hx hb dL_freeFrom_3 rfl (lv_at hl 1 rfl) ?_
  refine zxcatch (own := RL) (name := "java/util/NoSuchElementException") hBA (vx_runV (As := [.int (iI a)]) (rest := [.int (iI 0), .ref (ad 60)]) ⟨hx, hb, hml, hown, hts⟩ hM (cwV 1 hts gL_freeFrom_X1_freeFrom rfl rfl rfl (by decide +kernel) ⟨(Nat.le_of_ble_eq_true rfl), (Nat.le_of_ble_eq_true rfl)⟩) (zPVn hBA hE hS hw (ci := 1) (k0 := 0) rfl ((up_ne _ _ (by decide)).trans he)) rfl rfl hl.1 rfl (lv_room (Nat.le_of_ble_eq_true rfl)) dL_freeFrom_4 ⟨(Nat.le_of_ble_eq_true rfl), (Nat.le_of_ble_eq_true rfl)⟩) hS hown [] ⟨0, 9, 12, 47⟩ [] htab (fun z hz => nomatch hz) (by decide) (by decide) (hts (.classLink RL 47 "java/util/NoSuchElementException") (by decide +kernel)) (zFace_use _ (by decide +kernel) (hE.2.2.2.2.2.2.1 _ (by decide +kernel))) (fun q H1 locs hz1 hk1 hS => ?_)
  have hw := hw.grow hk1
  refine lv_astore_n (lv' := [(3, .ref q), (0, .ref (ad 0)), (1, .int (iI a)), (2, .ref (ad 60))]) hx hb dL_freeFrom_12 rfl hl (by decide) rfl (fun ls hl => ?_)
  refine zi_const hx hb dL_freeFrom_13 ?_
  exact vx_ret (ziret hx hb hr hlocks hS (Nat.le_of_ble_eq_true rfl) (Nat.le_of_ble_eq_true rfl) (z := 1) (by decide) ⟨rfl, hw⟩ dL_freeFrom_14)

set_option maxHeartbeats 4000000 in
set_option maxRecDepth 100000 in
theorem w_L_need (l : Launch) (D : va_G) (cy : Nat → ClassId) (A : Nat → Prop) (ad : Nat → Nat) (H0 : Heap) {e1 : Nat → Option va_E} {fs : List Value} {fo : Nat → Int64} (a : Int) (hw : zW D A ad (va_up e1 60 (some (.inl (cy 3, 1, .inr (.inl fo))))) H0) (he : e1 0 = some (.inr (1, fs))) {post : Int → Heap → Prop} (hM : Met l yX1_need wsX1_need ({ frames := 2, cells := 0, slots := 0, locals := 47 }) (zPc D cy (fun q => A q ∧ q ≠ ad 60) [.ref (ad 0), .int (iI a)] H0) (zQi post (fun q => A q ∧ q ≠ ad 60)) 0 0 (fun q => A q ∧ q ≠ ad 60)) {P : Int → (Nat → Nat) → (Nat → Option va_E) → Prop} (hp : ∀ z H1, post z H1 → ∃ ad2 e2, ad2 60 = ad 60 ∧ e2 60 = none ∧ zW D (fun q => A q ∧ q ≠ ad 60) ad2 e2 H1 ∧ P z ad2 e2) :
    vx_Met l yL_need wsL_need ({ frames := 3, cells := 0, slots := 0, locals := 68 }) (zPc D cy A [.ref (ad 0), .int (iI a), .ref (ad 60)] H0) (zQi (fun c H2 => c = 0 ∧ ∃ (z : Int) (ad2 : Nat → Nat) (e2 : Nat → Option va_E) (fo2 : Nat → Int64), zr z ∧ P z ad2 e2 ∧ fo2 0 = (iI z).toInt64 ∧ ad2 60 = ad 60 ∧ e2 60 = none ∧ zW D A ad2 (va_up e2 60 (some (.inl (cy 3, 1, .inr (.inl fo2))))) H2) A) (fun _ _ _ => False) 0 0 A := by
  refine vx_ofWH (cc := cL_need) (maxL := 4) (ret := some .int) (hh := [(0, 9, 12, 13)]) (by decide) rfl ?_
  intro pg en s mt args below meth c s₁ B hml hv
  obtain ⟨rfl, hH, hE⟩ := hv
  subst hH
  have hx := B.exec
  have hb := B.bytes
  have hr := B.returns
  have hts := atoms_spec (ws := wsL_need) B.pre
  have hown : s.vm.findClass RL = some mt.cls := findClass_of_methodNamed B.named
  have hlocks := B.notSynchronized
  have htab := vx_table (x := yL_need) B (hts _ List.mem_cons_self)
  have hS : va_S A s.heap s.heap [] := va_S.rf
  have hl := lv_entry ([.ref (ad 0), .int (iI a), .ref (ad 60)]) (n := 4) (Nat.le_of_ble_eq_true rfl)
  rw [lg_entry_eq]
  generalize (lg_sl ([.ref (ad 0), .int (iI a), .ref (ad 60)]) ++ List.replicate (4 - (lg_sl ([.ref (ad 0), .int (iI a), .ref (ad 60)])).length) Slot.unset).toArray = ls at hl ⊢
  have hl : lv_has ls 4 [(0, .ref (ad 0)), (1, .int (iI a)), (2, .ref (ad 60))] := hl
  have hBA : ∀ q, (A q ∧ q ≠ ad 60) → A q := fun q h => h.1
  refine lv_aload_n hx hb dL_need_0 rfl (lv_at hl 2 rfl) ?_
  refine zi_const hx hb dL_need_1 ?_
  refine lv_aload_n hx hb dL_need_2 rfl (lv_at hl 0 rfl) ?_
  refine lv_iload_n hx hb dL_need_3 rfl (lv_at hl 1 rfl) ?_
  refine zcalliN hBA (va_runV (As := [.int (iI a)]) (rest := [.int (iI 0), .ref (ad 60)]) ⟨hx, hb, hml, hown, hts⟩ hM (cwV 1 hts gL_need_X1_need rfl rfl rfl (by decide +kernel) ⟨(Nat.le_of_ble_eq_true rfl), (Nat.le_of_ble_eq_true rfl)⟩) (zPVn hBA hE hS hw (ci := 1) (k0 := 0) rfl ((up_ne _ _ (by decide)).trans he)) rfl rfl hl.1 rfl (lv_room (Nat.le_of_ble_eq_true rfl)) dL_need_4 ⟨(Nat.le_of_ble_eq_true rfl), (Nat.le_of_ble_eq_true rfl)⟩) hS (fun z H1 locs hz hq hz1 hk1 hS => ?_)
  obtain ⟨ad2, e2, h60, hn60, hw1, hP⟩ := hp z H1 hq
  have hw := hw.join hw1 h60 hn60 hk1
  refine lv_i2l hx hb dL_need_7 rfl ?_
  refine zlast hx hb hE hS hw h60 dL_need_8 (fun H2 locs fo2 hf2 hw hS => ?_)
  refine lv_goto (tgt := 15) hx hb dL_need_9 (by decide) ?_
  refine zi_const hx hb dL_need_15 ?_
  exact vx_ret (ziret hx hb hr hlocks hS (Nat.le_of_ble_eq_true rfl) (Nat.le_of_ble_eq_true rfl) (z := 0) (by decide) ⟨rfl, z, ad2, e2, fo2, hz, hP, hf2, h60, hn60, hw⟩ dL_need_16)

set_option maxHeartbeats 4000000 in
set_option maxRecDepth 100000 in
theorem w_L_need_1 (l : Launch) (D : va_G) (cy : Nat → ClassId) (A : Nat → Prop) (ad : Nat → Nat) (H0 : Heap) {e1 : Nat → Option va_E} {fs : List Value} {fo : Nat → Int64} (a : Int) (hw : zW D A ad (va_up e1 60 (some (.inl (cy 3, 1, .inr (.inl fo))))) H0) (he : e1 0 = some (.inr (1, fs))) (hM : vx_Met l yX1_need wsX1_need ({ frames := 7, cells := 1, slots := 6, locals := 101 }) (zPc D cy (fun q => A q ∧ q ≠ ad 60) [.ref (ad 0), .int (iI a)] H0) zN (zX "java/lang/IndexOutOfBoundsException" H0 (fun q => A q ∧ q ≠ ad 60)) 1 6 (fun q => A q ∧ q ≠ ad 60)) :
    vx_Met l yL_need wsL_need ({ frames := 8, cells := 1, slots := 6, locals := 122 }) (zPc D cy A [.ref (ad 0), .int (iI a), .ref (ad 60)] H0) (zQi (fun c H2 => c = 1 ∧ zW D A ad (va_up e1 60 (some (.inl (cy 3, 1, .inr (.inl fo))))) H2) A) (fun _ _ _ => False) 1 6 A := by
  refine vx_ofWH (cc := cL_need) (maxL := 4) (ret := some .int) (hh := [(0, 9, 12, 13)]) (by decide) rfl ?_
  intro pg en s mt args below meth c s₁ B hml hv
  obtain ⟨rfl, hH, hE⟩ := hv
  subst hH
  have hx := B.exec
  have hb := B.bytes
  have hr := B.returns
  have hts := atoms_spec (ws := wsL_need) B.pre
  have hown : s.vm.findClass RL = some mt.cls := findClass_of_methodNamed B.named
  have hlocks := B.notSynchronized
  have htab := vx_table (x := yL_need) B (hts _ List.mem_cons_self)
  have hS : va_S A s.heap s.heap [] := va_S.rf
  have hl := lv_entry ([.ref (ad 0), .int (iI a), .ref (ad 60)]) (n := 4) (Nat.le_of_ble_eq_true rfl)
  rw [lg_entry_eq]
  generalize (lg_sl ([.ref (ad 0), .int (iI a), .ref (ad 60)]) ++ List.replicate (4 - (lg_sl ([.ref (ad 0), .int (iI a), .ref (ad 60)])).length) Slot.unset).toArray = ls at hl ⊢
  have hl : lv_has ls 4 [(0, .ref (ad 0)), (1, .int (iI a)), (2, .ref (ad 60))] := hl
  have hBA : ∀ q, (A q ∧ q ≠ ad 60) → A q := fun q h => h.1
  refine lv_aload_n hx hb dL_need_0 rfl (lv_at hl 2 rfl) ?_
  refine zi_const hx hb dL_need_1 ?_
  refine lv_aload_n hx hb dL_need_2 rfl (lv_at hl 0 rfl) ?_
  refine lv_iload_n hx hb dL_need_3 rfl (lv_at hl 1 rfl) ?_
  refine zxcatch (own := RL) (name := "java/lang/IndexOutOfBoundsException") hBA (vx_runV (As := [.int (iI a)]) (rest := [.int (iI 0), .ref (ad 60)]) ⟨hx, hb, hml, hown, hts⟩ hM (cwV 1 hts gL_need_X1_need rfl rfl rfl (by decide +kernel) ⟨(Nat.le_of_ble_eq_true rfl), (Nat.le_of_ble_eq_true rfl)⟩) (zPVn hBA hE hS hw (ci := 1) (k0 := 0) rfl ((up_ne _ _ (by decide)).trans he)) rfl rfl hl.1 rfl (lv_room (Nat.le_of_ble_eq_true rfl)) dL_need_4 ⟨(Nat.le_of_ble_eq_true rfl), (Nat.le_of_ble_eq_true rfl)⟩) hS hown [] ⟨0, 9, 12, 13⟩ [] htab (fun z hz => nomatch hz) (by decide) (by decide) (hts (.classLink RL 13 "java/lang/IndexOutOfBoundsException") (by decide +kernel)) (zFace_use _ (by decide +kernel) (hE.2.2.2.2.2.2.1 _ (by decide +kernel))) (fun q H1 locs hz1 hk1 hS => ?_)
  have hw := hw.grow hk1
  refine lv_astore_n (lv' := [(3, .ref q), (0, .ref (ad 0)), (1, .int (iI a)), (2, .ref (ad 60))]) hx hb dL_need_12 rfl hl (by decide) rfl (fun ls hl => ?_)
  refine zi_const hx hb dL_need_13 ?_
  exact vx_ret (ziret hx hb hr hlocks hS (Nat.le_of_ble_eq_true rfl) (Nat.le_of_ble_eq_true rfl) (z := 1) (by decide) ⟨rfl, hw⟩ dL_need_14)

set_option maxHeartbeats 4000000 in
set_option maxRecDepth 100000 in
theorem w_L_earliest (l : Launch) (D : va_G) (cy : Nat → ClassId) (A : Nat → Prop) (ad : Nat → Nat) (H0 : Heap) {e1 : Nat → Option va_E} {fs : List Value} {fo : Nat → Int64} (a b d f : Int) (hw : zW D A ad (va_up e1 60 (some (.inl (cy 3, 1, .inr (.inl fo))))) H0) (he : e1 0 = some (.inr (1, fs))) {post : Int → Heap → Prop} (hM : Met l yX1_earliest wsX1_earliest ({ frames := 3, cells := 0, slots := 0, locals := 69 }) (zPc D cy (fun q => A q ∧ q ≠ ad 60) [.ref (ad 0), .int (iI a), .int (iI b), .int (iI d), .int (iI f)] H0) (zQi post (fun q => A q ∧ q ≠ ad 60)) 0 0 (fun q => A q ∧ q ≠ ad 60)) {P : Int → (Nat → Nat) → (Nat → Option va_E) → Prop} (hp : ∀ z H1, post z H1 → ∃ ad2 e2, ad2 60 = ad 60 ∧ e2 60 = none ∧ zW D (fun q => A q ∧ q ≠ ad 60) ad2 e2 H1 ∧ P z ad2 e2) :
    vx_Met l yL_earliest wsL_earliest ({ frames := 4, cells := 0, slots := 0, locals := 97 }) (zPc D cy A [.ref (ad 0), .int (iI a), .int (iI b), .int (iI d), .int (iI f), .ref (ad 60)] H0) (zQi (fun c H2 => c = 0 ∧ ∃ (z : Int) (ad2 : Nat → Nat) (e2 : Nat → Option va_E) (fo2 : Nat → Int64), zr z ∧ P z ad2 e2 ∧ fo2 0 = (iI z).toInt64 ∧ ad2 60 = ad 60 ∧ e2 60 = none ∧ zW D A ad2 (va_up e2 60 (some (.inl (cy 3, 1, .inr (.inl fo2))))) H2) A) (fun _ _ _ => False) 0 0 A := by
  refine vx_ofWH (cc := cL_earliest) (maxL := 7) (ret := some .int) (hh := [(0, 14, 17, 15)]) (by decide) rfl ?_
  intro pg en s mt args below meth c s₁ B hml hv
  obtain ⟨rfl, hH, hE⟩ := hv
  subst hH
  have hx := B.exec
  have hb := B.bytes
  have hr := B.returns
  have hts := atoms_spec (ws := wsL_earliest) B.pre
  have hown : s.vm.findClass RL = some mt.cls := findClass_of_methodNamed B.named
  have hlocks := B.notSynchronized
  have htab := vx_table (x := yL_earliest) B (hts _ List.mem_cons_self)
  have hS : va_S A s.heap s.heap [] := va_S.rf
  have hl := lv_entry ([.ref (ad 0), .int (iI a), .int (iI b), .int (iI d), .int (iI f), .ref (ad 60)]) (n := 7) (Nat.le_of_ble_eq_true rfl)
  rw [lg_entry_eq]
  generalize (lg_sl ([.ref (ad 0), .int (iI a), .int (iI b), .int (iI d), .int (iI f), .ref (ad 60)]) ++ List.replicate (7 - (lg_sl ([.ref (ad 0), .int (iI a), .int (iI b), .int (iI d), .int (iI f), .ref (ad 60)])).length) Slot.unset).toArray = ls at hl ⊢
  have hl : lv_has ls 7 [(0, .ref (ad 0)), (1, .int (iI a)), (2, .int (iI b)), (3, .int (iI d)), (4, .int (iI f)), (5, .ref (ad 60))] := hl
  have hBA : ∀ q, (A q ∧ q ≠ ad 60) → A q := fun q h => h.1
  refine lv_aload hx hb dL_earliest_0 (lv_at hl 5 rfl) ?_
  refine zi_const hx hb dL_earliest_2 ?_
  refine lv_aload_n hx hb dL_earliest_3 rfl (lv_at hl 0 rfl) ?_
  refine lv_iload_n hx hb dL_earliest_4 rfl (lv_at hl 1 rfl) ?_
  refine lv_iload_n hx hb dL_earliest_5 rfl (lv_at hl 2 rfl) ?_
  refine lv_iload_n hx hb dL_earliest_6 rfl (lv_at hl 3 rfl) ?_
  refine lv_iload hx hb dL_earliest_7 (lv_at hl 4 rfl) ?_
  refine zcalliN hBA (va_runV (As := [.int (iI a), .int (iI b), .int (iI d), .int (iI f)]) (rest := [.int (iI 0), .ref (ad 60)]) ⟨hx, hb, hml, hown, hts⟩ hM (cwV 4 hts gL_earliest_X1_earliest rfl rfl rfl (by decide +kernel) ⟨(Nat.le_of_ble_eq_true rfl), (Nat.le_of_ble_eq_true rfl)⟩) (zPVn hBA hE hS hw (ci := 1) (k0 := 0) rfl ((up_ne _ _ (by decide)).trans he)) rfl rfl hl.1 rfl (lv_room (Nat.le_of_ble_eq_true rfl)) dL_earliest_9 ⟨(Nat.le_of_ble_eq_true rfl), (Nat.le_of_ble_eq_true rfl)⟩) hS (fun z H1 locs hz hq hz1 hk1 hS => ?_)
  obtain ⟨ad2, e2, h60, hn60, hw1, hP⟩ := hp z H1 hq
  have hw := hw.join hw1 h60 hn60 hk1
  refine lv_i2l hx hb dL_earliest_12 rfl ?_
  refine zlast hx hb hE hS hw h60 dL_earliest_13 (fun H2 locs fo2 hf2 hw hS => ?_)
  refine lv_goto (tgt := 21) hx hb dL_earliest_14 (by decide) ?_
  refine zi_const hx hb dL_earliest_21 ?_
  exact vx_ret (ziret hx hb hr hlocks hS (Nat.le_of_ble_eq_true rfl) (Nat.le_of_ble_eq_true rfl) (z := 0) (by decide) ⟨rfl, z, ad2, e2, fo2, hz, hP, hf2, h60, hn60, hw⟩ dL_earliest_22)

set_option maxHeartbeats 4000000 in
set_option maxRecDepth 100000 in
theorem w_L_earliest_1 (l : Launch) (D : va_G) (cy : Nat → ClassId) (A : Nat → Prop) (ad : Nat → Nat) (H0 : Heap) {e1 : Nat → Option va_E} {fs : List Value} {fo : Nat → Int64} (a b d f : Int) (hw : zW D A ad (va_up e1 60 (some (.inl (cy 3, 1, .inr (.inl fo))))) H0) (he : e1 0 = some (.inr (1, fs))) (hM : vx_Met l yX1_earliest wsX1_earliest ({ frames := 9, cells := 1, slots := 6, locals := 146 }) (zPc D cy (fun q => A q ∧ q ≠ ad 60) [.ref (ad 0), .int (iI a), .int (iI b), .int (iI d), .int (iI f)] H0) zN (zX "java/lang/IllegalArgumentException" H0 (fun q => A q ∧ q ≠ ad 60)) 1 6 (fun q => A q ∧ q ≠ ad 60)) :
    vx_Met l yL_earliest wsL_earliest ({ frames := 10, cells := 1, slots := 6, locals := 174 }) (zPc D cy A [.ref (ad 0), .int (iI a), .int (iI b), .int (iI d), .int (iI f), .ref (ad 60)] H0) (zQi (fun c H2 => c = 1 ∧ zW D A ad (va_up e1 60 (some (.inl (cy 3, 1, .inr (.inl fo))))) H2) A) (fun _ _ _ => False) 1 6 A := by
  refine vx_ofWH (cc := cL_earliest) (maxL := 7) (ret := some .int) (hh := [(0, 14, 17, 15)]) (by decide) rfl ?_
  intro pg en s mt args below meth c s₁ B hml hv
  obtain ⟨rfl, hH, hE⟩ := hv
  subst hH
  have hx := B.exec
  have hb := B.bytes
  have hr := B.returns
  have hts := atoms_spec (ws := wsL_earliest) B.pre
  have hown : s.vm.findClass RL = some mt.cls := findClass_of_methodNamed B.named
  have hlocks := B.notSynchronized
  have htab := vx_table (x := yL_earliest) B (hts _ List.mem_cons_self)
  have hS : va_S A s.heap s.heap [] := va_S.rf
  have hl := lv_entry ([.ref (ad 0), .int (iI a), .int (iI b), .int (iI d), .int (iI f), .ref (ad 60)]) (n := 7) (Nat.le_of_ble_eq_true rfl)
  rw [lg_entry_eq]
  generalize (lg_sl ([.ref (ad 0), .int (iI a), .int (iI b), .int (iI d), .int (iI f), .ref (ad 60)]) ++ List.replicate (7 - (lg_sl ([.ref (ad 0), .int (iI a), .int (iI b), .int (iI d), .int (iI f), .ref (ad 60)])).length) Slot.unset).toArray = ls at hl ⊢
  have hl : lv_has ls 7 [(0, .ref (ad 0)), (1, .int (iI a)), (2, .int (iI b)), (3, .int (iI d)), (4, .int (iI f)), (5, .ref (ad 60))] := hl
  have hBA : ∀ q, (A q ∧ q ≠ ad 60) → A q := fun q h => h.1
  refine lv_aload hx hb dL_earliest_0 (lv_at hl 5 rfl) ?_
  refine zi_const hx hb dL_earliest_2 ?_
  refine lv_aload_n hx hb dL_earliest_3 rfl (lv_at hl 0 rfl) ?_
  refine lv_iload_n hx hb dL_earliest_4 rfl (lv_at hl 1 rfl) ?_
  refine lv_iload_n hx hb dL_earliest_5 rfl (lv_at hl 2 rfl) ?_
  refine lv_iload_n hx hb dL_earliest_6 rfl (lv_at hl 3 rfl) ?_
  refine lv_iload hx hb dL_earliest_7 (lv_at hl 4 rfl) ?_
  refine zxcatch (own := RL) (name := "java/lang/IllegalArgumentException") hBA (vx_runV (As := [.int (iI a), .int (iI b), .int (iI d), .int (iI f)]) (rest := [.int (iI 0), .ref (ad 60)]) ⟨hx, hb, hml, hown, hts⟩ hM (cwV 4 hts gL_earliest_X1_earliest rfl rfl rfl (by decide +kernel) ⟨(Nat.le_of_ble_eq_true rfl), (Nat.le_of_ble_eq_true rfl)⟩) (zPVn hBA hE hS hw (ci := 1) (k0 := 0) rfl ((up_ne _ _ (by decide)).trans he)) rfl rfl hl.1 rfl (lv_room (Nat.le_of_ble_eq_true rfl)) dL_earliest_9 ⟨(Nat.le_of_ble_eq_true rfl), (Nat.le_of_ble_eq_true rfl)⟩) hS hown [] ⟨0, 14, 17, 15⟩ [] htab (fun z hz => nomatch hz) (by decide) (by decide) (hts (.classLink RL 15 "java/lang/IllegalArgumentException") (by decide +kernel)) (zFace_use _ (by decide +kernel) (hE.2.2.2.2.2.2.1 _ (by decide +kernel))) (fun q H1 locs hz1 hk1 hS => ?_)
  have hw := hw.grow hk1
  refine lv_astore (lv' := [(6, .ref q), (0, .ref (ad 0)), (1, .int (iI a)), (2, .int (iI b)), (3, .int (iI d)), (4, .int (iI f)), (5, .ref (ad 60))]) hx hb dL_earliest_17 hl (by decide) rfl (fun ls hl => ?_)
  refine zi_const hx hb dL_earliest_19 ?_
  exact vx_ret (ziret hx hb hr hlocks hS (Nat.le_of_ble_eq_true rfl) (Nat.le_of_ble_eq_true rfl) (z := 1) (by decide) ⟨rfl, hw⟩ dL_earliest_20)

set_option maxHeartbeats 4000000 in
set_option maxRecDepth 100000 in
theorem w_L_panelsOf (l : Launch) (D : va_G) (cy : Nat → ClassId) (A : Nat → Prop) (ad : Nat → Nat) (H0 : Heap) {e1 : Nat → Option va_E} {fs : List Value} {fo : Nat → Int64} (a : Int) (hw : zW D A ad (va_up e1 60 (some (.inl (cy 3, 1, .inr (.inl fo))))) H0) (he : e1 0 = some (.inr (1, fs))) {post : Int → Heap → Prop} (hM : Met l yX1_panelsOf wsX1_panelsOf ({ frames := 3, cells := 0, slots := 0, locals := 72 }) (zPc D cy (fun q => A q ∧ q ≠ ad 60) [.ref (ad 0), .int (iI a)] H0) (zQi post (fun q => A q ∧ q ≠ ad 60)) 0 0 (fun q => A q ∧ q ≠ ad 60)) {P : Int → (Nat → Nat) → (Nat → Option va_E) → Prop} (hp : ∀ z H1, post z H1 → ∃ ad2 e2, ad2 60 = ad 60 ∧ e2 60 = none ∧ zW D (fun q => A q ∧ q ≠ ad 60) ad2 e2 H1 ∧ P z ad2 e2) :
    vx_Met l yL_panelsOf wsL_panelsOf ({ frames := 4, cells := 0, slots := 0, locals := 94 }) (zPc D cy A [.ref (ad 0), .int (iI a), .ref (ad 60)] H0) (zQi (fun c H2 => c = 0 ∧ ∃ (z : Int) (ad2 : Nat → Nat) (e2 : Nat → Option va_E) (fo2 : Nat → Int64), zr z ∧ P z ad2 e2 ∧ fo2 0 = (iI z).toInt64 ∧ ad2 60 = ad 60 ∧ e2 60 = none ∧ zW D A ad2 (va_up e2 60 (some (.inl (cy 3, 1, .inr (.inl fo2))))) H2) A) (fun _ _ _ => False) 0 0 A := by
  refine vx_ofWH (cc := cL_panelsOf) (maxL := 4) (ret := some .int) (hh := [(0, 9, 12, 47)]) (by decide) rfl ?_
  intro pg en s mt args below meth c s₁ B hml hv
  obtain ⟨rfl, hH, hE⟩ := hv
  subst hH
  have hx := B.exec
  have hb := B.bytes
  have hr := B.returns
  have hts := atoms_spec (ws := wsL_panelsOf) B.pre
  have hown : s.vm.findClass RL = some mt.cls := findClass_of_methodNamed B.named
  have hlocks := B.notSynchronized
  have htab := vx_table (x := yL_panelsOf) B (hts _ List.mem_cons_self)
  have hS : va_S A s.heap s.heap [] := va_S.rf
  have hl := lv_entry ([.ref (ad 0), .int (iI a), .ref (ad 60)]) (n := 4) (Nat.le_of_ble_eq_true rfl)
  rw [lg_entry_eq]
  generalize (lg_sl ([.ref (ad 0), .int (iI a), .ref (ad 60)]) ++ List.replicate (4 - (lg_sl ([.ref (ad 0), .int (iI a), .ref (ad 60)])).length) Slot.unset).toArray = ls at hl ⊢
  have hl : lv_has ls 4 [(0, .ref (ad 0)), (1, .int (iI a)), (2, .ref (ad 60))] := hl
  have hBA : ∀ q, (A q ∧ q ≠ ad 60) → A q := fun q h => h.1
  refine lv_aload_n hx hb dL_panelsOf_0 rfl (lv_at hl 2 rfl) ?_
  refine zi_const hx hb dL_panelsOf_1 ?_
  refine lv_aload_n hx hb dL_panelsOf_2 rfl (lv_at hl 0 rfl) ?_
  refine lv_iload_n hx hb dL_panelsOf_3 rfl (lv_at hl 1 rfl) ?_
  refine zcalliN hBA (va_runV (As := [.int (iI a)]) (rest := [.int (iI 0), .ref (ad 60)]) ⟨hx, hb, hml, hown, hts⟩ hM (cwV 1 hts gL_panelsOf_X1_panelsOf rfl rfl rfl (by decide +kernel) ⟨(Nat.le_of_ble_eq_true rfl), (Nat.le_of_ble_eq_true rfl)⟩) (zPVn hBA hE hS hw (ci := 1) (k0 := 0) rfl ((up_ne _ _ (by decide)).trans he)) rfl rfl hl.1 rfl (lv_room (Nat.le_of_ble_eq_true rfl)) dL_panelsOf_4 ⟨(Nat.le_of_ble_eq_true rfl), (Nat.le_of_ble_eq_true rfl)⟩) hS (fun z H1 locs hz hq hz1 hk1 hS => ?_)
  obtain ⟨ad2, e2, h60, hn60, hw1, hP⟩ := hp z H1 hq
  have hw := hw.join hw1 h60 hn60 hk1
  refine lv_i2l hx hb dL_panelsOf_7 rfl ?_
  refine zlast hx hb hE hS hw h60 dL_panelsOf_8 (fun H2 locs fo2 hf2 hw hS => ?_)
  refine lv_goto (tgt := 15) hx hb dL_panelsOf_9 (by decide) ?_
  refine zi_const hx hb dL_panelsOf_15 ?_
  exact vx_ret (ziret hx hb hr hlocks hS (Nat.le_of_ble_eq_true rfl) (Nat.le_of_ble_eq_true rfl) (z := 0) (by decide) ⟨rfl, z, ad2, e2, fo2, hz, hP, hf2, h60, hn60, hw⟩ dL_panelsOf_16)

set_option maxHeartbeats 4000000 in
set_option maxRecDepth 100000 in
theorem w_L_panelsOf_1 (l : Launch) (D : va_G) (cy : Nat → ClassId) (A : Nat → Prop) (ad : Nat → Nat) (H0 : Heap) {e1 : Nat → Option va_E} {fs : List Value} {fo : Nat → Int64} (a : Int) (hw : zW D A ad (va_up e1 60 (some (.inl (cy 3, 1, .inr (.inl fo))))) H0) (he : e1 0 = some (.inr (1, fs))) (hM : vx_Met l yX1_panelsOf wsX1_panelsOf ({ frames := 7, cells := 1, slots := 6, locals := 103 }) (zPc D cy (fun q => A q ∧ q ≠ ad 60) [.ref (ad 0), .int (iI a)] H0) zN (zX "java/util/NoSuchElementException" H0 (fun q => A q ∧ q ≠ ad 60)) 1 6 (fun q => A q ∧ q ≠ ad 60)) :
    vx_Met l yL_panelsOf wsL_panelsOf ({ frames := 8, cells := 1, slots := 6, locals := 125 }) (zPc D cy A [.ref (ad 0), .int (iI a), .ref (ad 60)] H0) (zQi (fun c H2 => c = 1 ∧ zW D A ad (va_up e1 60 (some (.inl (cy 3, 1, .inr (.inl fo))))) H2) A) (fun _ _ _ => False) 1 6 A := by
  refine vx_ofWH (cc := cL_panelsOf) (maxL := 4) (ret := some .int) (hh := [(0, 9, 12, 47)]) (by decide) rfl ?_
  intro pg en s mt args below meth c s₁ B hml hv
  obtain ⟨rfl, hH, hE⟩ := hv
  subst hH
  have hx := B.exec
  have hb := B.bytes
  have hr := B.returns
  have hts := atoms_spec (ws := wsL_panelsOf) B.pre
  have hown : s.vm.findClass RL = some mt.cls := findClass_of_methodNamed B.named
  have hlocks := B.notSynchronized
  have htab := vx_table (x := yL_panelsOf) B (hts _ List.mem_cons_self)
  have hS : va_S A s.heap s.heap [] := va_S.rf
  have hl := lv_entry ([.ref (ad 0), .int (iI a), .ref (ad 60)]) (n := 4) (Nat.le_of_ble_eq_true rfl)
  rw [lg_entry_eq]
  generalize (lg_sl ([.ref (ad 0), .int (iI a), .ref (ad 60)]) ++ List.replicate (4 - (lg_sl ([.ref (ad 0), .int (iI a), .ref (ad 60)])).length) Slot.unset).toArray = ls at hl ⊢
  have hl : lv_has ls 4 [(0, .ref (ad 0)), (1, .int (iI a)), (2, .ref (ad 60))] := hl
  have hBA : ∀ q, (A q ∧ q ≠ ad 60) → A q := fun q h => h.1
  refine lv_aload_n hx hb dL_panelsOf_0 rfl (lv_at hl 2 rfl) ?_
  refine zi_const hx hb dL_panelsOf_1 ?_
  refine lv_aload_n hx hb dL_panelsOf_2 rfl (lv_at hl 0 rfl) ?_
  refine lv_iload_n hx hb dL_panelsOf_3 rfl (lv_at hl 1 rfl) ?_
  refine zxcatch (own := RL) (name := "java/util/NoSuchElementException") hBA (vx_runV (As := [.int (iI a)]) (rest := [.int (iI 0), .ref (ad 60)]) ⟨hx, hb, hml, hown, hts⟩ hM (cwV 1 hts gL_panelsOf_X1_panelsOf rfl rfl rfl (by decide +kernel) ⟨(Nat.le_of_ble_eq_true rfl), (Nat.le_of_ble_eq_true rfl)⟩) (zPVn hBA hE hS hw (ci := 1) (k0 := 0) rfl ((up_ne _ _ (by decide)).trans he)) rfl rfl hl.1 rfl (lv_room (Nat.le_of_ble_eq_true rfl)) dL_panelsOf_4 ⟨(Nat.le_of_ble_eq_true rfl), (Nat.le_of_ble_eq_true rfl)⟩) hS hown [] ⟨0, 9, 12, 47⟩ [] htab (fun z hz => nomatch hz) (by decide) (by decide) (hts (.classLink RL 47 "java/util/NoSuchElementException") (by decide +kernel)) (zFace_use _ (by decide +kernel) (hE.2.2.2.2.2.2.1 _ (by decide +kernel))) (fun q H1 locs hz1 hk1 hS => ?_)
  have hw := hw.grow hk1
  refine lv_astore_n (lv' := [(3, .ref q), (0, .ref (ad 0)), (1, .int (iI a)), (2, .ref (ad 60))]) hx hb dL_panelsOf_12 rfl hl (by decide) rfl (fun ls hl => ?_)
  refine zi_const hx hb dL_panelsOf_13 ?_
  exact vx_ret (ziret hx hb hr hlocks hS (Nat.le_of_ble_eq_true rfl) (Nat.le_of_ble_eq_true rfl) (z := 1) (by decide) ⟨rfl, hw⟩ dL_panelsOf_14)

set_option maxHeartbeats 4000000 in
set_option maxRecDepth 100000 in
theorem w_L_pourOf (l : Launch) (D : va_G) (cy : Nat → ClassId) (A : Nat → Prop) (ad : Nat → Nat) (H0 : Heap) {e1 : Nat → Option va_E} {fs : List Value} {fo : Nat → Int64} (a b : Int) (hw : zW D A ad (va_up e1 60 (some (.inl (cy 3, 1, .inr (.inl fo))))) H0) (he : e1 0 = some (.inr (1, fs))) {post : Int → Heap → Prop} (hM : Met l yX1_pourOf wsX1_pourOf ({ frames := 3, cells := 0, slots := 0, locals := 72 }) (zPc D cy (fun q => A q ∧ q ≠ ad 60) [.ref (ad 0), .int (iI a), .int (iI b)] H0) (zQi post (fun q => A q ∧ q ≠ ad 60)) 0 0 (fun q => A q ∧ q ≠ ad 60)) {P : Int → (Nat → Nat) → (Nat → Option va_E) → Prop} (hp : ∀ z H1, post z H1 → ∃ ad2 e2, ad2 60 = ad 60 ∧ e2 60 = none ∧ zW D (fun q => A q ∧ q ≠ ad 60) ad2 e2 H1 ∧ P z ad2 e2) :
    vx_Met l yL_pourOf wsL_pourOf ({ frames := 4, cells := 0, slots := 0, locals := 98 }) (zPc D cy A [.ref (ad 0), .int (iI a), .int (iI b), .ref (ad 60)] H0) (zQi (fun c H2 => c = 0 ∧ ∃ (z : Int) (ad2 : Nat → Nat) (e2 : Nat → Option va_E) (fo2 : Nat → Int64), zr z ∧ P z ad2 e2 ∧ fo2 0 = (iI z).toInt64 ∧ ad2 60 = ad 60 ∧ e2 60 = none ∧ zW D A ad2 (va_up e2 60 (some (.inl (cy 3, 1, .inr (.inl fo2))))) H2) A) (fun _ _ _ => False) 0 0 A := by
  refine vx_ofWH (cc := cL_pourOf) (maxL := 5) (ret := some .int) (hh := [(0, 10, 13, 13)]) (by decide) rfl ?_
  intro pg en s mt args below meth c s₁ B hml hv
  obtain ⟨rfl, hH, hE⟩ := hv
  subst hH
  have hx := B.exec
  have hb := B.bytes
  have hr := B.returns
  have hts := atoms_spec (ws := wsL_pourOf) B.pre
  have hown : s.vm.findClass RL = some mt.cls := findClass_of_methodNamed B.named
  have hlocks := B.notSynchronized
  have htab := vx_table (x := yL_pourOf) B (hts _ List.mem_cons_self)
  have hS : va_S A s.heap s.heap [] := va_S.rf
  have hl := lv_entry ([.ref (ad 0), .int (iI a), .int (iI b), .ref (ad 60)]) (n := 5) (Nat.le_of_ble_eq_true rfl)
  rw [lg_entry_eq]
  generalize (lg_sl ([.ref (ad 0), .int (iI a), .int (iI b), .ref (ad 60)]) ++ List.replicate (5 - (lg_sl ([.ref (ad 0), .int (iI a), .int (iI b), .ref (ad 60)])).length) Slot.unset).toArray = ls at hl ⊢
  have hl : lv_has ls 5 [(0, .ref (ad 0)), (1, .int (iI a)), (2, .int (iI b)), (3, .ref (ad 60))] := hl
  have hBA : ∀ q, (A q ∧ q ≠ ad 60) → A q := fun q h => h.1
  refine lv_aload_n hx hb dL_pourOf_0 rfl (lv_at hl 3 rfl) ?_
  refine zi_const hx hb dL_pourOf_1 ?_
  refine lv_aload_n hx hb dL_pourOf_2 rfl (lv_at hl 0 rfl) ?_
  refine lv_iload_n hx hb dL_pourOf_3 rfl (lv_at hl 1 rfl) ?_
  refine lv_iload_n hx hb dL_pourOf_4 rfl (lv_at hl 2 rfl) ?_
  refine zcalliN hBA (va_runV (As := [.int (iI a), .int (iI b)]) (rest := [.int (iI 0), .ref (ad 60)]) ⟨hx, hb, hml, hown, hts⟩ hM (cwV 2 hts gL_pourOf_X1_pourOf rfl rfl rfl (by decide +kernel) ⟨(Nat.le_of_ble_eq_true rfl), (Nat.le_of_ble_eq_true rfl)⟩) (zPVn hBA hE hS hw (ci := 1) (k0 := 0) rfl ((up_ne _ _ (by decide)).trans he)) rfl rfl hl.1 rfl (lv_room (Nat.le_of_ble_eq_true rfl)) dL_pourOf_5 ⟨(Nat.le_of_ble_eq_true rfl), (Nat.le_of_ble_eq_true rfl)⟩) hS (fun z H1 locs hz hq hz1 hk1 hS => ?_)
  obtain ⟨ad2, e2, h60, hn60, hw1, hP⟩ := hp z H1 hq
  have hw := hw.join hw1 h60 hn60 hk1
  refine lv_i2l hx hb dL_pourOf_8 rfl ?_
  refine zlast hx hb hE hS hw h60 dL_pourOf_9 (fun H2 locs fo2 hf2 hw hS => ?_)
  refine lv_goto (tgt := 17) hx hb dL_pourOf_10 (by decide) ?_
  refine zi_const hx hb dL_pourOf_17 ?_
  exact vx_ret (ziret hx hb hr hlocks hS (Nat.le_of_ble_eq_true rfl) (Nat.le_of_ble_eq_true rfl) (z := 0) (by decide) ⟨rfl, z, ad2, e2, fo2, hz, hP, hf2, h60, hn60, hw⟩ dL_pourOf_18)

set_option maxHeartbeats 4000000 in
set_option maxRecDepth 100000 in
theorem w_L_pourOf_1 (l : Launch) (D : va_G) (cy : Nat → ClassId) (A : Nat → Prop) (ad : Nat → Nat) (H0 : Heap) {e1 : Nat → Option va_E} {fs : List Value} {fo : Nat → Int64} (a b : Int) (hw : zW D A ad (va_up e1 60 (some (.inl (cy 3, 1, .inr (.inl fo))))) H0) (he : e1 0 = some (.inr (1, fs))) (hM : vx_Met l yX1_pourOf wsX1_pourOf ({ frames := 7, cells := 1, slots := 6, locals := 101 }) (zPc D cy (fun q => A q ∧ q ≠ ad 60) [.ref (ad 0), .int (iI a), .int (iI b)] H0) zN (zX "java/lang/IndexOutOfBoundsException" H0 (fun q => A q ∧ q ≠ ad 60)) 1 6 (fun q => A q ∧ q ≠ ad 60)) :
    vx_Met l yL_pourOf wsL_pourOf ({ frames := 8, cells := 1, slots := 6, locals := 127 }) (zPc D cy A [.ref (ad 0), .int (iI a), .int (iI b), .ref (ad 60)] H0) (zQi (fun c H2 => c = 1 ∧ zW D A ad (va_up e1 60 (some (.inl (cy 3, 1, .inr (.inl fo))))) H2) A) (fun _ _ _ => False) 1 6 A := by
  refine vx_ofWH (cc := cL_pourOf) (maxL := 5) (ret := some .int) (hh := [(0, 10, 13, 13)]) (by decide) rfl ?_
  intro pg en s mt args below meth c s₁ B hml hv
  obtain ⟨rfl, hH, hE⟩ := hv
  subst hH
  have hx := B.exec
  have hb := B.bytes
  have hr := B.returns
  have hts := atoms_spec (ws := wsL_pourOf) B.pre
  have hown : s.vm.findClass RL = some mt.cls := findClass_of_methodNamed B.named
  have hlocks := B.notSynchronized
  have htab := vx_table (x := yL_pourOf) B (hts _ List.mem_cons_self)
  have hS : va_S A s.heap s.heap [] := va_S.rf
  have hl := lv_entry ([.ref (ad 0), .int (iI a), .int (iI b), .ref (ad 60)]) (n := 5) (Nat.le_of_ble_eq_true rfl)
  rw [lg_entry_eq]
  generalize (lg_sl ([.ref (ad 0), .int (iI a), .int (iI b), .ref (ad 60)]) ++ List.replicate (5 - (lg_sl ([.ref (ad 0), .int (iI a), .int (iI b), .ref (ad 60)])).length) Slot.unset).toArray = ls at hl ⊢
  have hl : lv_has ls 5 [(0, .ref (ad 0)), (1, .int (iI a)), (2, .int (iI b)), (3, .ref (ad 60))] := hl
  have hBA : ∀ q, (A q ∧ q ≠ ad 60) → A q := fun q h => h.1
  refine lv_aload_n hx hb dL_pourOf_0 rfl (lv_at hl 3 rfl) ?_
  refine zi_const hx hb dL_pourOf_1 ?_
  refine lv_aload_n hx hb dL_pourOf_2 rfl (lv_at hl 0 rfl) ?_
  refine lv_iload_n hx hb dL_pourOf_3 rfl (lv_at hl 1 rfl) ?_
  refine lv_iload_n hx hb dL_pourOf_4 rfl (lv_at hl 2 rfl) ?_
  refine zxcatch (own := RL) (name := "java/lang/IndexOutOfBoundsException") hBA (vx_runV (As := [.int (iI a), .int (iI b)]) (rest := [.int (iI 0), .ref (ad 60)]) ⟨hx, hb, hml, hown, hts⟩ hM (cwV 2 hts gL_pourOf_X1_pourOf rfl rfl rfl (by decide +kernel) ⟨(Nat.le_of_ble_eq_true rfl), (Nat.le_of_ble_eq_true rfl)⟩) (zPVn hBA hE hS hw (ci := 1) (k0 := 0) rfl ((up_ne _ _ (by decide)).trans he)) rfl rfl hl.1 rfl (lv_room (Nat.le_of_ble_eq_true rfl)) dL_pourOf_5 ⟨(Nat.le_of_ble_eq_true rfl), (Nat.le_of_ble_eq_true rfl)⟩) hS hown [] ⟨0, 10, 13, 13⟩ [] htab (fun z hz => nomatch hz) (by decide) (by decide) (hts (.classLink RL 13 "java/lang/IndexOutOfBoundsException") (by decide +kernel)) (zFace_use _ (by decide +kernel) (hE.2.2.2.2.2.2.1 _ (by decide +kernel))) (fun q H1 locs hz1 hk1 hS => ?_)
  have hw := hw.grow hk1
  refine lv_astore (lv' := [(4, .ref q), (0, .ref (ad 0)), (1, .int (iI a)), (2, .int (iI b)), (3, .ref (ad 60))]) hx hb dL_pourOf_13 hl (by decide) rfl (fun ls hl => ?_)
  refine zi_const hx hb dL_pourOf_15 ?_
  exact vx_ret (ziret hx hb hr hlocks hS (Nat.le_of_ble_eq_true rfl) (Nat.le_of_ble_eq_true rfl) (z := 1) (by decide) ⟨rfl, hw⟩ dL_pourOf_16)

set_option maxHeartbeats 4000000 in
set_option maxRecDepth 100000 in
theorem w_L_plan (l : Launch) (D : va_G) (cy : Nat → ClassId) (A : Nat → Prop) (ad : Nat → Nat) (H0 : Heap) {e1 : Nat → Option va_E} {fs : List Value} {fo : Nat → Int64} (a b d f : Int) (hw : zW D A ad (va_up e1 60 (some (.inl (cy 3, 1, .inr (.inl fo))))) H0) (he : e1 0 = some (.inr (1, fs))) {post : Int → Heap → Prop} (hM : Met l yX1_plan wsX1_plan ({ frames := 4, cells := 3, slots := 21, locals := 90 }) (zPc D cy (fun q => A q ∧ q ≠ ad 60) [.ref (ad 0), .int (iI a), .int (iI b), .int (iI d), .int (iI f)] H0) (zQi post (fun q => A q ∧ q ≠ ad 60)) 3 21 (fun q => A q ∧ q ≠ ad 60)) {P : Int → (Nat → Nat) → (Nat → Option va_E) → Prop} (hp : ∀ z H1, post z H1 → ∃ ad2 e2, ad2 60 = ad 60 ∧ e2 60 = none ∧ zW D (fun q => A q ∧ q ≠ ad 60) ad2 e2 H1 ∧ P z ad2 e2) :
    vx_Met l yL_plan wsL_plan ({ frames := 5, cells := 3, slots := 21, locals := 116 }) (zPc D cy A [.ref (ad 0), .int (iI a), .int (iI b), .int (iI d), .int (iI f), .ref (ad 60)] H0) (zQi (fun c H2 => c = 0 ∧ ∃ (z : Int) (ad2 : Nat → Nat) (e2 : Nat → Option va_E) (fo2 : Nat → Int64), zr z ∧ P z ad2 e2 ∧ fo2 0 = (iI z).toInt64 ∧ ad2 60 = ad 60 ∧ e2 60 = none ∧ zW D A ad2 (va_up e2 60 (some (.inl (cy 3, 1, .inr (.inl fo2))))) H2) A) (fun _ _ _ => False) 3 21 A := by
  refine vx_ofWH (cc := cL_plan) (maxL := 7) (ret := some .int) (hh := [(0, 14, 17, 15), (0, 14, 21, 42)]) (by decide) rfl ?_
  intro pg en s mt args below meth c s₁ B hml hv
  obtain ⟨rfl, hH, hE⟩ := hv
  subst hH
  have hx := B.exec
  have hb := B.bytes
  have hr := B.returns
  have hts := atoms_spec (ws := wsL_plan) B.pre
  have hown : s.vm.findClass RL = some mt.cls := findClass_of_methodNamed B.named
  have hlocks := B.notSynchronized
  have htab := vx_table (x := yL_plan) B (hts _ List.mem_cons_self)
  have hS : va_S A s.heap s.heap [] := va_S.rf
  have hl := lv_entry ([.ref (ad 0), .int (iI a), .int (iI b), .int (iI d), .int (iI f), .ref (ad 60)]) (n := 7) (Nat.le_of_ble_eq_true rfl)
  rw [lg_entry_eq]
  generalize (lg_sl ([.ref (ad 0), .int (iI a), .int (iI b), .int (iI d), .int (iI f), .ref (ad 60)]) ++ List.replicate (7 - (lg_sl ([.ref (ad 0), .int (iI a), .int (iI b), .int (iI d), .int (iI f), .ref (ad 60)])).length) Slot.unset).toArray = ls at hl ⊢
  have hl : lv_has ls 7 [(0, .ref (ad 0)), (1, .int (iI a)), (2, .int (iI b)), (3, .int (iI d)), (4, .int (iI f)), (5, .ref (ad 60))] := hl
  have hBA : ∀ q, (A q ∧ q ≠ ad 60) → A q := fun q h => h.1
  refine lv_aload hx hb dL_plan_0 (lv_at hl 5 rfl) ?_
  refine zi_const hx hb dL_plan_2 ?_
  refine lv_aload_n hx hb dL_plan_3 rfl (lv_at hl 0 rfl) ?_
  refine lv_iload_n hx hb dL_plan_4 rfl (lv_at hl 1 rfl) ?_
  refine lv_iload_n hx hb dL_plan_5 rfl (lv_at hl 2 rfl) ?_
  refine lv_iload_n hx hb dL_plan_6 rfl (lv_at hl 3 rfl) ?_
  refine lv_iload hx hb dL_plan_7 (lv_at hl 4 rfl) ?_
  refine zcalliN hBA (va_runV (As := [.int (iI a), .int (iI b), .int (iI d), .int (iI f)]) (rest := [.int (iI 0), .ref (ad 60)]) ⟨hx, hb, hml, hown, hts⟩ hM (cwV 4 hts gL_plan_X1_plan rfl rfl rfl (by decide +kernel) ⟨(Nat.le_of_ble_eq_true rfl), (Nat.le_of_ble_eq_true rfl)⟩) (zPVn hBA hE hS hw (ci := 1) (k0 := 0) rfl ((up_ne _ _ (by decide)).trans he)) rfl rfl hl.1 rfl (lv_room (Nat.le_of_ble_eq_true rfl)) dL_plan_9 ⟨(Nat.le_of_ble_eq_true rfl), (Nat.le_of_ble_eq_true rfl)⟩) hS (fun z H1 locs hz hq hz1 hk1 hS => ?_)
  obtain ⟨ad2, e2, h60, hn60, hw1, hP⟩ := hp z H1 hq
  have hw := hw.join hw1 h60 hn60 hk1
  refine lv_i2l hx hb dL_plan_12 rfl ?_
  refine zlast hx hb hE hS hw h60 dL_plan_13 (fun H2 locs fo2 hf2 hw hS => ?_)
  refine lv_goto (tgt := 25) hx hb dL_plan_14 (by decide) ?_
  refine zi_const hx hb dL_plan_25 ?_
  exact vx_ret (ziret hx hb hr hlocks hS (Nat.le_of_ble_eq_true rfl) (Nat.le_of_ble_eq_true rfl) (z := 0) (by decide) ⟨rfl, z, ad2, e2, fo2, hz, hP, hf2, h60, hn60, hw⟩ dL_plan_26)

set_option maxHeartbeats 4000000 in
set_option maxRecDepth 100000 in
theorem w_L_plan_1 (l : Launch) (D : va_G) (cy : Nat → ClassId) (A : Nat → Prop) (ad : Nat → Nat) (H0 : Heap) {e1 : Nat → Option va_E} {fs : List Value} {fo : Nat → Int64} (a b d f : Int) (hw : zW D A ad (va_up e1 60 (some (.inl (cy 3, 1, .inr (.inl fo))))) H0) (he : e1 0 = some (.inr (1, fs))) (hM : vx_Met l yX1_plan wsX1_plan ({ frames := 9, cells := 1, slots := 6, locals := 146 }) (zPc D cy (fun q => A q ∧ q ≠ ad 60) [.ref (ad 0), .int (iI a), .int (iI b), .int (iI d), .int (iI f)] H0) zN (zX "java/lang/IllegalArgumentException" H0 (fun q => A q ∧ q ≠ ad 60)) 1 6 (fun q => A q ∧ q ≠ ad 60)) :
    vx_Met l yL_plan wsL_plan ({ frames := 10, cells := 1, slots := 6, locals := 172 }) (zPc D cy A [.ref (ad 0), .int (iI a), .int (iI b), .int (iI d), .int (iI f), .ref (ad 60)] H0) (zQi (fun c H2 => c = 1 ∧ zW D A ad (va_up e1 60 (some (.inl (cy 3, 1, .inr (.inl fo))))) H2) A) (fun _ _ _ => False) 1 6 A := by
  refine vx_ofWH (cc := cL_plan) (maxL := 7) (ret := some .int) (hh := [(0, 14, 17, 15), (0, 14, 21, 42)]) (by decide) rfl ?_
  intro pg en s mt args below meth c s₁ B hml hv
  obtain ⟨rfl, hH, hE⟩ := hv
  subst hH
  have hx := B.exec
  have hb := B.bytes
  have hr := B.returns
  have hts := atoms_spec (ws := wsL_plan) B.pre
  have hown : s.vm.findClass RL = some mt.cls := findClass_of_methodNamed B.named
  have hlocks := B.notSynchronized
  have htab := vx_table (x := yL_plan) B (hts _ List.mem_cons_self)
  have hS : va_S A s.heap s.heap [] := va_S.rf
  have hl := lv_entry ([.ref (ad 0), .int (iI a), .int (iI b), .int (iI d), .int (iI f), .ref (ad 60)]) (n := 7) (Nat.le_of_ble_eq_true rfl)
  rw [lg_entry_eq]
  generalize (lg_sl ([.ref (ad 0), .int (iI a), .int (iI b), .int (iI d), .int (iI f), .ref (ad 60)]) ++ List.replicate (7 - (lg_sl ([.ref (ad 0), .int (iI a), .int (iI b), .int (iI d), .int (iI f), .ref (ad 60)])).length) Slot.unset).toArray = ls at hl ⊢
  have hl : lv_has ls 7 [(0, .ref (ad 0)), (1, .int (iI a)), (2, .int (iI b)), (3, .int (iI d)), (4, .int (iI f)), (5, .ref (ad 60))] := hl
  have hBA : ∀ q, (A q ∧ q ≠ ad 60) → A q := fun q h => h.1
  refine lv_aload hx hb dL_plan_0 (lv_at hl 5 rfl) ?_
  refine zi_const hx hb dL_plan_2 ?_
  refine lv_aload_n hx hb dL_plan_3 rfl (lv_at hl 0 rfl) ?_
  refine lv_iload_n hx hb dL_plan_4 rfl (lv_at hl 1 rfl) ?_
  refine lv_iload_n hx hb dL_plan_5 rfl (lv_at hl 2 rfl) ?_
  refine lv_iload_n hx hb dL_plan_6 rfl (lv_at hl 3 rfl) ?_
  refine lv_iload hx hb dL_plan_7 (lv_at hl 4 rfl) ?_
  refine zxcatch (own := RL) (name := "java/lang/IllegalArgumentException") hBA (vx_runV (As := [.int (iI a), .int (iI b), .int (iI d), .int (iI f)]) (rest := [.int (iI 0), .ref (ad 60)]) ⟨hx, hb, hml, hown, hts⟩ hM (cwV 4 hts gL_plan_X1_plan rfl rfl rfl (by decide +kernel) ⟨(Nat.le_of_ble_eq_true rfl), (Nat.le_of_ble_eq_true rfl)⟩) (zPVn hBA hE hS hw (ci := 1) (k0 := 0) rfl ((up_ne _ _ (by decide)).trans he)) rfl rfl hl.1 rfl (lv_room (Nat.le_of_ble_eq_true rfl)) dL_plan_9 ⟨(Nat.le_of_ble_eq_true rfl), (Nat.le_of_ble_eq_true rfl)⟩) hS hown [] ⟨0, 14, 17, 15⟩ [⟨0, 14, 21, 42⟩] htab (fun z hz => nomatch hz) (by decide) (by decide) (hts (.classLink RL 15 "java/lang/IllegalArgumentException") (by decide +kernel)) (zFace_use _ (by decide +kernel) (hE.2.2.2.2.2.2.1 _ (by decide +kernel))) (fun q H1 locs hz1 hk1 hS => ?_)
  have hw := hw.grow hk1
  refine lv_astore (lv' := [(6, .ref q), (0, .ref (ad 0)), (1, .int (iI a)), (2, .int (iI b)), (3, .int (iI d)), (4, .int (iI f)), (5, .ref (ad 60))]) hx hb dL_plan_17 hl (by decide) rfl (fun ls hl => ?_)
  refine zi_const hx hb dL_plan_19 ?_
  exact vx_ret (ziret hx hb hr hlocks hS (Nat.le_of_ble_eq_true rfl) (Nat.le_of_ble_eq_true rfl) (z := 1) (by decide) ⟨rfl, hw⟩ dL_plan_20)

set_option maxHeartbeats 4000000 in
set_option maxRecDepth 100000 in
theorem w_L_plan_2 (l : Launch) (D : va_G) (cy : Nat → ClassId) (A : Nat → Prop) (ad : Nat → Nat) (H0 : Heap) {e1 : Nat → Option va_E} {fs : List Value} {fo : Nat → Int64} (a b d f : Int) (hw : zW D A ad (va_up e1 60 (some (.inl (cy 3, 1, .inr (.inl fo))))) H0) (he : e1 0 = some (.inr (1, fs))) (hM : vx_Met l yX1_plan wsX1_plan ({ frames := 6, cells := 1, slots := 6, locals := 90 }) (zPc D cy (fun q => A q ∧ q ≠ ad 60) [.ref (ad 0), .int (iI a), .int (iI b), .int (iI d), .int (iI f)] H0) zN (zX "java/lang/IllegalStateException" H0 (fun q => A q ∧ q ≠ ad 60)) 1 6 (fun q => A q ∧ q ≠ ad 60)) :
    vx_Met l yL_plan wsL_plan ({ frames := 7, cells := 1, slots := 6, locals := 116 }) (zPc D cy A [.ref (ad 0), .int (iI a), .int (iI b), .int (iI d), .int (iI f), .ref (ad 60)] H0) (zQi (fun c H2 => c = 2 ∧ zW D A ad (va_up e1 60 (some (.inl (cy 3, 1, .inr (.inl fo))))) H2) A) (fun _ _ _ => False) 1 6 A := by
  refine vx_ofWH (cc := cL_plan) (maxL := 7) (ret := some .int) (hh := [(0, 14, 17, 15), (0, 14, 21, 42)]) (by decide) rfl ?_
  intro pg en s mt args below meth c s₁ B hml hv
  obtain ⟨rfl, hH, hE⟩ := hv
  subst hH
  have hx := B.exec
  have hb := B.bytes
  have hr := B.returns
  have hts := atoms_spec (ws := wsL_plan) B.pre
  have hown : s.vm.findClass RL = some mt.cls := findClass_of_methodNamed B.named
  have hlocks := B.notSynchronized
  have htab := vx_table (x := yL_plan) B (hts _ List.mem_cons_self)
  have hS : va_S A s.heap s.heap [] := va_S.rf
  have hl := lv_entry ([.ref (ad 0), .int (iI a), .int (iI b), .int (iI d), .int (iI f), .ref (ad 60)]) (n := 7) (Nat.le_of_ble_eq_true rfl)
  rw [lg_entry_eq]
  generalize (lg_sl ([.ref (ad 0), .int (iI a), .int (iI b), .int (iI d), .int (iI f), .ref (ad 60)]) ++ List.replicate (7 - (lg_sl ([.ref (ad 0), .int (iI a), .int (iI b), .int (iI d), .int (iI f), .ref (ad 60)])).length) Slot.unset).toArray = ls at hl ⊢
  have hl : lv_has ls 7 [(0, .ref (ad 0)), (1, .int (iI a)), (2, .int (iI b)), (3, .int (iI d)), (4, .int (iI f)), (5, .ref (ad 60))] := hl
  have hBA : ∀ q, (A q ∧ q ≠ ad 60) → A q := fun q h => h.1
  refine lv_aload hx hb dL_plan_0 (lv_at hl 5 rfl) ?_
  refine zi_const hx hb dL_plan_2 ?_
  refine lv_aload_n hx hb dL_plan_3 rfl (lv_at hl 0 rfl) ?_
  refine lv_iload_n hx hb dL_plan_4 rfl (lv_at hl 1 rfl) ?_
  refine lv_iload_n hx hb dL_plan_5 rfl (lv_at hl 2 rfl) ?_
  refine lv_iload_n hx hb dL_plan_6 rfl (lv_at hl 3 rfl) ?_
  refine lv_iload hx hb dL_plan_7 (lv_at hl 4 rfl) ?_
  refine zxcatch (own := RL) (name := "java/lang/IllegalStateException") hBA (vx_runV (As := [.int (iI a), .int (iI b), .int (iI d), .int (iI f)]) (rest := [.int (iI 0), .ref (ad 60)]) ⟨hx, hb, hml, hown, hts⟩ hM (cwV 4 hts gL_plan_X1_plan rfl rfl rfl (by decide +kernel) ⟨(Nat.le_of_ble_eq_true rfl), (Nat.le_of_ble_eq_true rfl)⟩) (zPVn hBA hE hS hw (ci := 1) (k0 := 0) rfl ((up_ne _ _ (by decide)).trans he)) rfl rfl hl.1 rfl (lv_room (Nat.le_of_ble_eq_true rfl)) dL_plan_9 ⟨(Nat.le_of_ble_eq_true rfl), (Nat.le_of_ble_eq_true rfl)⟩) hS hown [⟨0, 14, 17, 15⟩] ⟨0, 14, 21, 42⟩ [] htab (by intro z hz; simp only [List.mem_cons, List.not_mem_nil, or_false] at hz; subst hz; exact Or.inr ⟨by decide, _, hts (.classLink RL 15 "java/lang/IllegalArgumentException") (by decide +kernel), hE.2.2.2.2.2.1 ("java/lang/IllegalStateException", "java/lang/IllegalArgumentException") (by decide +kernel)⟩) (by decide) (by decide) (hts (.classLink RL 42 "java/lang/IllegalStateException") (by decide +kernel)) (zFace_use _ (by decide +kernel) (hE.2.2.2.2.2.2.1 _ (by decide +kernel))) (fun q H1 locs hz1 hk1 hS => ?_)
  have hw := hw.grow hk1
  refine lv_astore (lv' := [(6, .ref q), (0, .ref (ad 0)), (1, .int (iI a)), (2, .int (iI b)), (3, .int (iI d)), (4, .int (iI f)), (5, .ref (ad 60))]) hx hb dL_plan_21 hl (by decide) rfl (fun ls hl => ?_)
  refine zi_const hx hb dL_plan_23 ?_
  exact vx_ret (ziret hx hb hr hlocks hS (Nat.le_of_ble_eq_true rfl) (Nat.le_of_ble_eq_true rfl) (z := 2) (by decide) ⟨rfl, hw⟩ dL_plan_24)

set_option maxHeartbeats 4000000 in
set_option maxRecDepth 100000 in
theorem w_L_move (l : Launch) (D : va_G) (cy : Nat → ClassId) (A : Nat → Prop) (ad : Nat → Nat) (H0 : Heap) {e1 : Nat → Option va_E} {fs : List Value} {fo : Nat → Int64} (a b : Int) (hw : zW D A ad (va_up e1 60 (some (.inl (cy 3, 1, .inr (.inl fo))))) H0) (he : e1 0 = some (.inr (1, fs))) {post : Int → Heap → Prop} (hM : Met l yX1_move wsX1_move ({ frames := 4, cells := 0, slots := 0, locals := 90 }) (zPc D cy (fun q => A q ∧ q ≠ ad 60) [.ref (ad 0), .int (iI a), .int (iI b)] H0) (zQi post (fun q => A q ∧ q ≠ ad 60)) 0 0 (fun q => A q ∧ q ≠ ad 60)) {P : Int → (Nat → Nat) → (Nat → Option va_E) → Prop} (hp : ∀ z H1, post z H1 → ∃ ad2 e2, ad2 60 = ad 60 ∧ e2 60 = none ∧ zW D (fun q => A q ∧ q ≠ ad 60) ad2 e2 H1 ∧ P z ad2 e2) :
    vx_Met l yL_move wsL_move ({ frames := 5, cells := 0, slots := 0, locals := 114 }) (zPc D cy A [.ref (ad 0), .int (iI a), .int (iI b), .ref (ad 60)] H0) (zQi (fun c H2 => c = 0 ∧ ∃ (z : Int) (ad2 : Nat → Nat) (e2 : Nat → Option va_E) (fo2 : Nat → Int64), zr z ∧ P z ad2 e2 ∧ fo2 0 = (iI z).toInt64 ∧ ad2 60 = ad 60 ∧ e2 60 = none ∧ zW D A ad2 (va_up e2 60 (some (.inl (cy 3, 1, .inr (.inl fo2))))) H2) A) (fun _ _ _ => False) 0 0 A := by
  refine vx_ofWH (cc := cL_move) (maxL := 5) (ret := some .int) (hh := [(0, 10, 13, 47), (0, 10, 17, 15)]) (by decide) rfl ?_
  intro pg en s mt args below meth c s₁ B hml hv
  obtain ⟨rfl, hH, hE⟩ := hv
  subst hH
  have hx := B.exec
  have hb := B.bytes
  have hr := B.returns
  have hts := atoms_spec (ws := wsL_move) B.pre
  have hown : s.vm.findClass RL = some mt.cls := findClass_of_methodNamed B.named
  have hlocks := B.notSynchronized
  have htab := vx_table (x := yL_move) B (hts _ List.mem_cons_self)
  have hS : va_S A s.heap s.heap [] := va_S.rf
  have hl := lv_entry ([.ref (ad 0), .int (iI a), .int (iI b), .ref (ad 60)]) (n := 5) (Nat.le_of_ble_eq_true rfl)
  rw [lg_entry_eq]
  generalize (lg_sl ([.ref (ad 0), .int (iI a), .int (iI b), .ref (ad 60)]) ++ List.replicate (5 - (lg_sl ([.ref (ad 0), .int (iI a), .int (iI b), .ref (ad 60)])).length) Slot.unset).toArray = ls at hl ⊢
  have hl : lv_has ls 5 [(0, .ref (ad 0)), (1, .int (iI a)), (2, .int (iI b)), (3, .ref (ad 60))] := hl
  have hBA : ∀ q, (A q ∧ q ≠ ad 60) → A q := fun q h => h.1
  refine lv_aload_n hx hb dL_move_0 rfl (lv_at hl 3 rfl) ?_
  refine zi_const hx hb dL_move_1 ?_
  refine lv_aload_n hx hb dL_move_2 rfl (lv_at hl 0 rfl) ?_
  refine lv_iload_n hx hb dL_move_3 rfl (lv_at hl 1 rfl) ?_
  refine lv_iload_n hx hb dL_move_4 rfl (lv_at hl 2 rfl) ?_
  refine zcalliN hBA (va_runV (As := [.int (iI a), .int (iI b)]) (rest := [.int (iI 0), .ref (ad 60)]) ⟨hx, hb, hml, hown, hts⟩ hM (cwV 2 hts gL_move_X1_move rfl rfl rfl (by decide +kernel) ⟨(Nat.le_of_ble_eq_true rfl), (Nat.le_of_ble_eq_true rfl)⟩) (zPVn hBA hE hS hw (ci := 1) (k0 := 0) rfl ((up_ne _ _ (by decide)).trans he)) rfl rfl hl.1 rfl (lv_room (Nat.le_of_ble_eq_true rfl)) dL_move_5 ⟨(Nat.le_of_ble_eq_true rfl), (Nat.le_of_ble_eq_true rfl)⟩) hS (fun z H1 locs hz hq hz1 hk1 hS => ?_)
  obtain ⟨ad2, e2, h60, hn60, hw1, hP⟩ := hp z H1 hq
  have hw := hw.join hw1 h60 hn60 hk1
  refine lv_i2l hx hb dL_move_8 rfl ?_
  refine zlast hx hb hE hS hw h60 dL_move_9 (fun H2 locs fo2 hf2 hw hS => ?_)
  refine lv_goto (tgt := 21) hx hb dL_move_10 (by decide) ?_
  refine zi_const hx hb dL_move_21 ?_
  exact vx_ret (ziret hx hb hr hlocks hS (Nat.le_of_ble_eq_true rfl) (Nat.le_of_ble_eq_true rfl) (z := 0) (by decide) ⟨rfl, z, ad2, e2, fo2, hz, hP, hf2, h60, hn60, hw⟩ dL_move_22)

set_option maxHeartbeats 4000000 in
set_option maxRecDepth 100000 in
theorem w_L_move_1 (l : Launch) (D : va_G) (cy : Nat → ClassId) (A : Nat → Prop) (ad : Nat → Nat) (H0 : Heap) {e1 : Nat → Option va_E} {fs : List Value} {fo : Nat → Int64} (a b : Int) (hw : zW D A ad (va_up e1 60 (some (.inl (cy 3, 1, .inr (.inl fo))))) H0) (he : e1 0 = some (.inr (1, fs))) (hM : vx_Met l yX1_move wsX1_move ({ frames := 7, cells := 1, slots := 6, locals := 103 }) (zPc D cy (fun q => A q ∧ q ≠ ad 60) [.ref (ad 0), .int (iI a), .int (iI b)] H0) zN (zX "java/util/NoSuchElementException" H0 (fun q => A q ∧ q ≠ ad 60)) 1 6 (fun q => A q ∧ q ≠ ad 60)) :
    vx_Met l yL_move wsL_move ({ frames := 8, cells := 1, slots := 6, locals := 127 }) (zPc D cy A [.ref (ad 0), .int (iI a), .int (iI b), .ref (ad 60)] H0) (zQi (fun c H2 => c = 1 ∧ zW D A ad (va_up e1 60 (some (.inl (cy 3, 1, .inr (.inl fo))))) H2) A) (fun _ _ _ => False) 1 6 A := by
  refine vx_ofWH (cc := cL_move) (maxL := 5) (ret := some .int) (hh := [(0, 10, 13, 47), (0, 10, 17, 15)]) (by decide) rfl ?_
  intro pg en s mt args below meth c s₁ B hml hv
  obtain ⟨rfl, hH, hE⟩ := hv
  subst hH
  have hx := B.exec
  have hb := B.bytes
  have hr := B.returns
  have hts := atoms_spec (ws := wsL_move) B.pre
  have hown : s.vm.findClass RL = some mt.cls := findClass_of_methodNamed B.named
  have hlocks := B.notSynchronized
  have htab := vx_table (x := yL_move) B (hts _ List.mem_cons_self)
  have hS : va_S A s.heap s.heap [] := va_S.rf
  have hl := lv_entry ([.ref (ad 0), .int (iI a), .int (iI b), .ref (ad 60)]) (n := 5) (Nat.le_of_ble_eq_true rfl)
  rw [lg_entry_eq]
  generalize (lg_sl ([.ref (ad 0), .int (iI a), .int (iI b), .ref (ad 60)]) ++ List.replicate (5 - (lg_sl ([.ref (ad 0), .int (iI a), .int (iI b), .ref (ad 60)])).length) Slot.unset).toArray = ls at hl ⊢
  have hl : lv_has ls 5 [(0, .ref (ad 0)), (1, .int (iI a)), (2, .int (iI b)), (3, .ref (ad 60))] := hl
  have hBA : ∀ q, (A q ∧ q ≠ ad 60) → A q := fun q h => h.1
  refine lv_aload_n hx hb dL_move_0 rfl (lv_at hl 3 rfl) ?_
  refine zi_const hx hb dL_move_1 ?_
  refine lv_aload_n hx hb dL_move_2 rfl (lv_at hl 0 rfl) ?_
  refine lv_iload_n hx hb dL_move_3 rfl (lv_at hl 1 rfl) ?_
  refine lv_iload_n hx hb dL_move_4 rfl (lv_at hl 2 rfl) ?_
  refine zxcatch (own := RL) (name := "java/util/NoSuchElementException") hBA (vx_runV (As := [.int (iI a), .int (iI b)]) (rest := [.int (iI 0), .ref (ad 60)]) ⟨hx, hb, hml, hown, hts⟩ hM (cwV 2 hts gL_move_X1_move rfl rfl rfl (by decide +kernel) ⟨(Nat.le_of_ble_eq_true rfl), (Nat.le_of_ble_eq_true rfl)⟩) (zPVn hBA hE hS hw (ci := 1) (k0 := 0) rfl ((up_ne _ _ (by decide)).trans he)) rfl rfl hl.1 rfl (lv_room (Nat.le_of_ble_eq_true rfl)) dL_move_5 ⟨(Nat.le_of_ble_eq_true rfl), (Nat.le_of_ble_eq_true rfl)⟩) hS hown [] ⟨0, 10, 13, 47⟩ [⟨0, 10, 17, 15⟩] htab (fun z hz => nomatch hz) (by decide) (by decide) (hts (.classLink RL 47 "java/util/NoSuchElementException") (by decide +kernel)) (zFace_use _ (by decide +kernel) (hE.2.2.2.2.2.2.1 _ (by decide +kernel))) (fun q H1 locs hz1 hk1 hS => ?_)
  have hw := hw.grow hk1
  refine lv_astore (lv' := [(4, .ref q), (0, .ref (ad 0)), (1, .int (iI a)), (2, .int (iI b)), (3, .ref (ad 60))]) hx hb dL_move_13 hl (by decide) rfl (fun ls hl => ?_)
  refine zi_const hx hb dL_move_15 ?_
  exact vx_ret (ziret hx hb hr hlocks hS (Nat.le_of_ble_eq_true rfl) (Nat.le_of_ble_eq_true rfl) (z := 1) (by decide) ⟨rfl, hw⟩ dL_move_16)

set_option maxHeartbeats 4000000 in
set_option maxRecDepth 100000 in
theorem w_L_move_2 (l : Launch) (D : va_G) (cy : Nat → ClassId) (A : Nat → Prop) (ad : Nat → Nat) (H0 : Heap) {e1 : Nat → Option va_E} {fs : List Value} {fo : Nat → Int64} (a b : Int) (hw : zW D A ad (va_up e1 60 (some (.inl (cy 3, 1, .inr (.inl fo))))) H0) (he : e1 0 = some (.inr (1, fs))) (hM : vx_Met l yX1_move wsX1_move ({ frames := 8, cells := 1, slots := 6, locals := 123 }) (zPc D cy (fun q => A q ∧ q ≠ ad 60) [.ref (ad 0), .int (iI a), .int (iI b)] H0) zN (zX "java/lang/IllegalArgumentException" H0 (fun q => A q ∧ q ≠ ad 60)) 1 6 (fun q => A q ∧ q ≠ ad 60)) :
    vx_Met l yL_move wsL_move ({ frames := 9, cells := 1, slots := 6, locals := 147 }) (zPc D cy A [.ref (ad 0), .int (iI a), .int (iI b), .ref (ad 60)] H0) (zQi (fun c H2 => c = 2 ∧ zW D A ad (va_up e1 60 (some (.inl (cy 3, 1, .inr (.inl fo))))) H2) A) (fun _ _ _ => False) 1 6 A := by
  refine vx_ofWH (cc := cL_move) (maxL := 5) (ret := some .int) (hh := [(0, 10, 13, 47), (0, 10, 17, 15)]) (by decide) rfl ?_
  intro pg en s mt args below meth c s₁ B hml hv
  obtain ⟨rfl, hH, hE⟩ := hv
  subst hH
  have hx := B.exec
  have hb := B.bytes
  have hr := B.returns
  have hts := atoms_spec (ws := wsL_move) B.pre
  have hown : s.vm.findClass RL = some mt.cls := findClass_of_methodNamed B.named
  have hlocks := B.notSynchronized
  have htab := vx_table (x := yL_move) B (hts _ List.mem_cons_self)
  have hS : va_S A s.heap s.heap [] := va_S.rf
  have hl := lv_entry ([.ref (ad 0), .int (iI a), .int (iI b), .ref (ad 60)]) (n := 5) (Nat.le_of_ble_eq_true rfl)
  rw [lg_entry_eq]
  generalize (lg_sl ([.ref (ad 0), .int (iI a), .int (iI b), .ref (ad 60)]) ++ List.replicate (5 - (lg_sl ([.ref (ad 0), .int (iI a), .int (iI b), .ref (ad 60)])).length) Slot.unset).toArray = ls at hl ⊢
  have hl : lv_has ls 5 [(0, .ref (ad 0)), (1, .int (iI a)), (2, .int (iI b)), (3, .ref (ad 60))] := hl
  have hBA : ∀ q, (A q ∧ q ≠ ad 60) → A q := fun q h => h.1
  refine lv_aload_n hx hb dL_move_0 rfl (lv_at hl 3 rfl) ?_
  refine zi_const hx hb dL_move_1 ?_
  refine lv_aload_n hx hb dL_move_2 rfl (lv_at hl 0 rfl) ?_
  refine lv_iload_n hx hb dL_move_3 rfl (lv_at hl 1 rfl) ?_
  refine lv_iload_n hx hb dL_move_4 rfl (lv_at hl 2 rfl) ?_
  refine zxcatch (own := RL) (name := "java/lang/IllegalArgumentException") hBA (vx_runV (As := [.int (iI a), .int (iI b)]) (rest := [.int (iI 0), .ref (ad 60)]) ⟨hx, hb, hml, hown, hts⟩ hM (cwV 2 hts gL_move_X1_move rfl rfl rfl (by decide +kernel) ⟨(Nat.le_of_ble_eq_true rfl), (Nat.le_of_ble_eq_true rfl)⟩) (zPVn hBA hE hS hw (ci := 1) (k0 := 0) rfl ((up_ne _ _ (by decide)).trans he)) rfl rfl hl.1 rfl (lv_room (Nat.le_of_ble_eq_true rfl)) dL_move_5 ⟨(Nat.le_of_ble_eq_true rfl), (Nat.le_of_ble_eq_true rfl)⟩) hS hown [⟨0, 10, 13, 47⟩] ⟨0, 10, 17, 15⟩ [] htab (by intro z hz; simp only [List.mem_cons, List.not_mem_nil, or_false] at hz; subst hz; exact Or.inr ⟨by decide, _, hts (.classLink RL 47 "java/util/NoSuchElementException") (by decide +kernel), hE.2.2.2.2.2.1 ("java/lang/IllegalArgumentException", "java/util/NoSuchElementException") (by decide +kernel)⟩) (by decide) (by decide) (hts (.classLink RL 15 "java/lang/IllegalArgumentException") (by decide +kernel)) (zFace_use _ (by decide +kernel) (hE.2.2.2.2.2.2.1 _ (by decide +kernel))) (fun q H1 locs hz1 hk1 hS => ?_)
  have hw := hw.grow hk1
  refine lv_astore (lv' := [(4, .ref q), (0, .ref (ad 0)), (1, .int (iI a)), (2, .int (iI b)), (3, .ref (ad 60))]) hx hb dL_move_17 hl (by decide) rfl (fun ls hl => ?_)
  refine zi_const hx hb dL_move_19 ?_
  exact vx_ret (ziret hx hb hr hlocks hS (Nat.le_of_ble_eq_true rfl) (Nat.le_of_ble_eq_true rfl) (z := 2) (by decide) ⟨rfl, hw⟩ dL_move_20)

set_option maxHeartbeats 4000000 in
set_option maxRecDepth 100000 in
theorem w_L_delay (l : Launch) (D : va_G) (cy : Nat → ClassId) (A : Nat → Prop) (ad : Nat → Nat) (H0 : Heap) {e1 : Nat → Option va_E} {fs : List Value} {fo : Nat → Int64} (a b d : Int) (hw : zW D A ad (va_up e1 60 (some (.inl (cy 3, 1, .inr (.inl fo))))) H0) (he : e1 0 = some (.inr (1, fs))) {post : Int → Heap → Prop} (hM : Met l yX1_delay wsX1_delay ({ frames := 4, cells := 0, slots := 0, locals := 90 }) (zPc D cy (fun q => A q ∧ q ≠ ad 60) [.ref (ad 0), .int (iI a), .int (iI b), .int (iI d)] H0) (zQi post (fun q => A q ∧ q ≠ ad 60)) 0 0 (fun q => A q ∧ q ≠ ad 60)) {P : Int → (Nat → Nat) → (Nat → Option va_E) → Prop} (hp : ∀ z H1, post z H1 → ∃ ad2 e2, ad2 60 = ad 60 ∧ e2 60 = none ∧ zW D (fun q => A q ∧ q ≠ ad 60) ad2 e2 H1 ∧ P z ad2 e2) :
    vx_Met l yL_delay wsL_delay ({ frames := 5, cells := 0, slots := 0, locals := 114 }) (zPc D cy A [.ref (ad 0), .int (iI a), .int (iI b), .int (iI d), .ref (ad 60)] H0) (zQi (fun c H2 => c = 0 ∧ ∃ (z : Int) (ad2 : Nat → Nat) (e2 : Nat → Option va_E) (fo2 : Nat → Int64), zr z ∧ P z ad2 e2 ∧ fo2 0 = (iI z).toInt64 ∧ ad2 60 = ad 60 ∧ e2 60 = none ∧ zW D A ad2 (va_up e2 60 (some (.inl (cy 3, 1, .inr (.inl fo2))))) H2) A) (fun _ _ _ => False) 0 0 A := by
  refine vx_ofWH (cc := cL_delay) (maxL := 6) (ret := some .int) (hh := [(0, 12, 15, 47), (0, 12, 19, 15), (0, 12, 23, 42)]) (by decide) rfl ?_
  intro pg en s mt args below meth c s₁ B hml hv
  obtain ⟨rfl, hH, hE⟩ := hv
  subst hH
  have hx := B.exec
  have hb := B.bytes
  have hr := B.returns
  have hts := atoms_spec (ws := wsL_delay) B.pre
  have hown : s.vm.findClass RL = some mt.cls := findClass_of_methodNamed B.named
  have hlocks := B.notSynchronized
  have htab := vx_table (x := yL_delay) B (hts _ List.mem_cons_self)
  have hS : va_S A s.heap s.heap [] := va_S.rf
  have hl := lv_entry ([.ref (ad 0), .int (iI a), .int (iI b), .int (iI d), .ref (ad 60)]) (n := 6) (Nat.le_of_ble_eq_true rfl)
  rw [lg_entry_eq]
  generalize (lg_sl ([.ref (ad 0), .int (iI a), .int (iI b), .int (iI d), .ref (ad 60)]) ++ List.replicate (6 - (lg_sl ([.ref (ad 0), .int (iI a), .int (iI b), .int (iI d), .ref (ad 60)])).length) Slot.unset).toArray = ls at hl ⊢
  have hl : lv_has ls 6 [(0, .ref (ad 0)), (1, .int (iI a)), (2, .int (iI b)), (3, .int (iI d)), (4, .ref (ad 60))] := hl
  have hBA : ∀ q, (A q ∧ q ≠ ad 60) → A q := fun q h => h.1
  refine lv_aload hx hb dL_delay_0 (lv_at hl 4 rfl) ?_
  refine zi_const hx hb dL_delay_2 ?_
  refine lv_aload_n hx hb dL_delay_3 rfl (lv_at hl 0 rfl) ?_
  refine lv_iload_n hx hb dL_delay_4 rfl (lv_at hl 1 rfl) ?_
  refine lv_iload_n hx hb dL_delay_5 rfl (lv_at hl 2 rfl) ?_
  refine lv_iload_n hx hb dL_delay_6 rfl (lv_at hl 3 rfl) ?_
  refine zcalliN hBA (va_runV (As := [.int (iI a), .int (iI b), .int (iI d)]) (rest := [.int (iI 0), .ref (ad 60)]) ⟨hx, hb, hml, hown, hts⟩ hM (cwV 3 hts gL_delay_X1_delay rfl rfl rfl (by decide +kernel) ⟨(Nat.le_of_ble_eq_true rfl), (Nat.le_of_ble_eq_true rfl)⟩) (zPVn hBA hE hS hw (ci := 1) (k0 := 0) rfl ((up_ne _ _ (by decide)).trans he)) rfl rfl hl.1 rfl (lv_room (Nat.le_of_ble_eq_true rfl)) dL_delay_7 ⟨(Nat.le_of_ble_eq_true rfl), (Nat.le_of_ble_eq_true rfl)⟩) hS (fun z H1 locs hz hq hz1 hk1 hS => ?_)
  obtain ⟨ad2, e2, h60, hn60, hw1, hP⟩ := hp z H1 hq
  have hw := hw.join hw1 h60 hn60 hk1
  refine lv_i2l hx hb dL_delay_10 rfl ?_
  refine zlast hx hb hE hS hw h60 dL_delay_11 (fun H2 locs fo2 hf2 hw hS => ?_)
  refine lv_goto (tgt := 27) hx hb dL_delay_12 (by decide) ?_
  refine zi_const hx hb dL_delay_27 ?_
  exact vx_ret (ziret hx hb hr hlocks hS (Nat.le_of_ble_eq_true rfl) (Nat.le_of_ble_eq_true rfl) (z := 0) (by decide) ⟨rfl, z, ad2, e2, fo2, hz, hP, hf2, h60, hn60, hw⟩ dL_delay_28)

set_option maxHeartbeats 4000000 in
set_option maxRecDepth 100000 in
theorem w_L_delay_1 (l : Launch) (D : va_G) (cy : Nat → ClassId) (A : Nat → Prop) (ad : Nat → Nat) (H0 : Heap) {e1 : Nat → Option va_E} {fs : List Value} {fo : Nat → Int64} (a b d : Int) (hw : zW D A ad (va_up e1 60 (some (.inl (cy 3, 1, .inr (.inl fo))))) H0) (he : e1 0 = some (.inr (1, fs))) (hM : vx_Met l yX1_delay wsX1_delay ({ frames := 7, cells := 1, slots := 6, locals := 103 }) (zPc D cy (fun q => A q ∧ q ≠ ad 60) [.ref (ad 0), .int (iI a), .int (iI b), .int (iI d)] H0) zN (zX "java/util/NoSuchElementException" H0 (fun q => A q ∧ q ≠ ad 60)) 1 6 (fun q => A q ∧ q ≠ ad 60)) :
    vx_Met l yL_delay wsL_delay ({ frames := 8, cells := 1, slots := 6, locals := 127 }) (zPc D cy A [.ref (ad 0), .int (iI a), .int (iI b), .int (iI d), .ref (ad 60)] H0) (zQi (fun c H2 => c = 1 ∧ zW D A ad (va_up e1 60 (some (.inl (cy 3, 1, .inr (.inl fo))))) H2) A) (fun _ _ _ => False) 1 6 A := by
  refine vx_ofWH (cc := cL_delay) (maxL := 6) (ret := some .int) (hh := [(0, 12, 15, 47), (0, 12, 19, 15), (0, 12, 23, 42)]) (by decide) rfl ?_
  intro pg en s mt args below meth c s₁ B hml hv
  obtain ⟨rfl, hH, hE⟩ := hv
  subst hH
  have hx := B.exec
  have hb := B.bytes
  have hr := B.returns
  have hts := atoms_spec (ws := wsL_delay) B.pre
  have hown : s.vm.findClass RL = some mt.cls := findClass_of_methodNamed B.named
  have hlocks := B.notSynchronized
  have htab := vx_table (x := yL_delay) B (hts _ List.mem_cons_self)
  have hS : va_S A s.heap s.heap [] := va_S.rf
  have hl := lv_entry ([.ref (ad 0), .int (iI a), .int (iI b), .int (iI d), .ref (ad 60)]) (n := 6) (Nat.le_of_ble_eq_true rfl)
  rw [lg_entry_eq]
  generalize (lg_sl ([.ref (ad 0), .int (iI a), .int (iI b), .int (iI d), .ref (ad 60)]) ++ List.replicate (6 - (lg_sl ([.ref (ad 0), .int (iI a), .int (iI b), .int (iI d), .ref (ad 60)])).length) Slot.unset).toArray = ls at hl ⊢
  have hl : lv_has ls 6 [(0, .ref (ad 0)), (1, .int (iI a)), (2, .int (iI b)), (3, .int (iI d)), (4, .ref (ad 60))] := hl
  have hBA : ∀ q, (A q ∧ q ≠ ad 60) → A q := fun q h => h.1
  refine lv_aload hx hb dL_delay_0 (lv_at hl 4 rfl) ?_
  refine zi_const hx hb dL_delay_2 ?_
  refine lv_aload_n hx hb dL_delay_3 rfl (lv_at hl 0 rfl) ?_
  refine lv_iload_n hx hb dL_delay_4 rfl (lv_at hl 1 rfl) ?_
  refine lv_iload_n hx hb dL_delay_5 rfl (lv_at hl 2 rfl) ?_
  refine lv_iload_n hx hb dL_delay_6 rfl (lv_at hl 3 rfl) ?_
  refine zxcatch (own := RL) (name := "java/util/NoSuchElementException") hBA (vx_runV (As := [.int (iI a), .int (iI b), .int (iI d)]) (rest := [.int (iI 0), .ref (ad 60)]) ⟨hx, hb, hml, hown, hts⟩ hM (cwV 3 hts gL_delay_X1_delay rfl rfl rfl (by decide +kernel) ⟨(Nat.le_of_ble_eq_true rfl), (Nat.le_of_ble_eq_true rfl)⟩) (zPVn hBA hE hS hw (ci := 1) (k0 := 0) rfl ((up_ne _ _ (by decide)).trans he)) rfl rfl hl.1 rfl (lv_room (Nat.le_of_ble_eq_true rfl)) dL_delay_7 ⟨(Nat.le_of_ble_eq_true rfl), (Nat.le_of_ble_eq_true rfl)⟩) hS hown [] ⟨0, 12, 15, 47⟩ [⟨0, 12, 19, 15⟩, ⟨0, 12, 23, 42⟩] htab (fun z hz => nomatch hz) (by decide) (by decide) (hts (.classLink RL 47 "java/util/NoSuchElementException") (by decide +kernel)) (zFace_use _ (by decide +kernel) (hE.2.2.2.2.2.2.1 _ (by decide +kernel))) (fun q H1 locs hz1 hk1 hS => ?_)
  have hw := hw.grow hk1
  refine lv_astore (lv' := [(5, .ref q), (0, .ref (ad 0)), (1, .int (iI a)), (2, .int (iI b)), (3, .int (iI d)), (4, .ref (ad 60))]) hx hb dL_delay_15 hl (by decide) rfl (fun ls hl => ?_)
  refine zi_const hx hb dL_delay_17 ?_
  exact vx_ret (ziret hx hb hr hlocks hS (Nat.le_of_ble_eq_true rfl) (Nat.le_of_ble_eq_true rfl) (z := 1) (by decide) ⟨rfl, hw⟩ dL_delay_18)

set_option maxHeartbeats 4000000 in
set_option maxRecDepth 100000 in
theorem w_L_delay_2 (l : Launch) (D : va_G) (cy : Nat → ClassId) (A : Nat → Prop) (ad : Nat → Nat) (H0 : Heap) {e1 : Nat → Option va_E} {fs : List Value} {fo : Nat → Int64} (a b d : Int) (hw : zW D A ad (va_up e1 60 (some (.inl (cy 3, 1, .inr (.inl fo))))) H0) (he : e1 0 = some (.inr (1, fs))) (hM : vx_Met l yX1_delay wsX1_delay ({ frames := 8, cells := 1, slots := 6, locals := 123 }) (zPc D cy (fun q => A q ∧ q ≠ ad 60) [.ref (ad 0), .int (iI a), .int (iI b), .int (iI d)] H0) zN (zX "java/lang/IllegalArgumentException" H0 (fun q => A q ∧ q ≠ ad 60)) 1 6 (fun q => A q ∧ q ≠ ad 60)) :
    vx_Met l yL_delay wsL_delay ({ frames := 9, cells := 1, slots := 6, locals := 147 }) (zPc D cy A [.ref (ad 0), .int (iI a), .int (iI b), .int (iI d), .ref (ad 60)] H0) (zQi (fun c H2 => c = 2 ∧ zW D A ad (va_up e1 60 (some (.inl (cy 3, 1, .inr (.inl fo))))) H2) A) (fun _ _ _ => False) 1 6 A := by
  refine vx_ofWH (cc := cL_delay) (maxL := 6) (ret := some .int) (hh := [(0, 12, 15, 47), (0, 12, 19, 15), (0, 12, 23, 42)]) (by decide) rfl ?_
  intro pg en s mt args below meth c s₁ B hml hv
  obtain ⟨rfl, hH, hE⟩ := hv
  subst hH
  have hx := B.exec
  have hb := B.bytes
  have hr := B.returns
  have hts := atoms_spec (ws := wsL_delay) B.pre
  have hown : s.vm.findClass RL = some mt.cls := findClass_of_methodNamed B.named
  have hlocks := B.notSynchronized
  have htab := vx_table (x := yL_delay) B (hts _ List.mem_cons_self)
  have hS : va_S A s.heap s.heap [] := va_S.rf
  have hl := lv_entry ([.ref (ad 0), .int (iI a), .int (iI b), .int (iI d), .ref (ad 60)]) (n := 6) (Nat.le_of_ble_eq_true rfl)
  rw [lg_entry_eq]
  generalize (lg_sl ([.ref (ad 0), .int (iI a), .int (iI b), .int (iI d), .ref (ad 60)]) ++ List.replicate (6 - (lg_sl ([.ref (ad 0), .int (iI a), .int (iI b), .int (iI d), .ref (ad 60)])).length) Slot.unset).toArray = ls at hl ⊢
  have hl : lv_has ls 6 [(0, .ref (ad 0)), (1, .int (iI a)), (2, .int (iI b)), (3, .int (iI d)), (4, .ref (ad 60))] := hl
  have hBA : ∀ q, (A q ∧ q ≠ ad 60) → A q := fun q h => h.1
  refine lv_aload hx hb dL_delay_0 (lv_at hl 4 rfl) ?_
  refine zi_const hx hb dL_delay_2 ?_
  refine lv_aload_n hx hb dL_delay_3 rfl (lv_at hl 0 rfl) ?_
  refine lv_iload_n hx hb dL_delay_4 rfl (lv_at hl 1 rfl) ?_
  refine lv_iload_n hx hb dL_delay_5 rfl (lv_at hl 2 rfl) ?_
  refine lv_iload_n hx hb dL_delay_6 rfl (lv_at hl 3 rfl) ?_
  refine zxcatch (own := RL) (name := "java/lang/IllegalArgumentException") hBA (vx_runV (As := [.int (iI a), .int (iI b), .int (iI d)]) (rest := [.int (iI 0), .ref (ad 60)]) ⟨hx, hb, hml, hown, hts⟩ hM (cwV 3 hts gL_delay_X1_delay rfl rfl rfl (by decide +kernel) ⟨(Nat.le_of_ble_eq_true rfl), (Nat.le_of_ble_eq_true rfl)⟩) (zPVn hBA hE hS hw (ci := 1) (k0 := 0) rfl ((up_ne _ _ (by decide)).trans he)) rfl rfl hl.1 rfl (lv_room (Nat.le_of_ble_eq_true rfl)) dL_delay_7 ⟨(Nat.le_of_ble_eq_true rfl), (Nat.le_of_ble_eq_true rfl)⟩) hS hown [⟨0, 12, 15, 47⟩] ⟨0, 12, 19, 15⟩ [⟨0, 12, 23, 42⟩] htab (by intro z hz; simp only [List.mem_cons, List.not_mem_nil, or_false] at hz; subst hz; exact Or.inr ⟨by decide, _, hts (.classLink RL 47 "java/util/NoSuchElementException") (by decide +kernel), hE.2.2.2.2.2.1 ("java/lang/IllegalArgumentException", "java/util/NoSuchElementException") (by decide +kernel)⟩) (by decide) (by decide) (hts (.classLink RL 15 "java/lang/IllegalArgumentException") (by decide +kernel)) (zFace_use _ (by decide +kernel) (hE.2.2.2.2.2.2.1 _ (by decide +kernel))) (fun q H1 locs hz1 hk1 hS => ?_)
  have hw := hw.grow hk1
  refine lv_astore (lv' := [(5, .ref q), (0, .ref (ad 0)), (1, .int (iI a)), (2, .int (iI b)), (3, .int (iI d)), (4, .ref (ad 60))]) hx hb dL_delay_19 hl (by decide) rfl (fun ls hl => ?_)
  refine zi_const hx hb dL_delay_21 ?_
  exact vx_ret (ziret hx hb hr hlocks hS (Nat.le_of_ble_eq_true rfl) (Nat.le_of_ble_eq_true rfl) (z := 2) (by decide) ⟨rfl, hw⟩ dL_delay_22)

set_option maxHeartbeats 4000000 in
set_option maxRecDepth 100000 in
theorem w_L_delay_3 (l : Launch) (D : va_G) (cy : Nat → ClassId) (A : Nat → Prop) (ad : Nat → Nat) (H0 : Heap) {e1 : Nat → Option va_E} {fs : List Value} {fo : Nat → Int64} (a b d : Int) (hw : zW D A ad (va_up e1 60 (some (.inl (cy 3, 1, .inr (.inl fo))))) H0) (he : e1 0 = some (.inr (1, fs))) (hM : vx_Met l yX1_delay wsX1_delay ({ frames := 6, cells := 1, slots := 6, locals := 90 }) (zPc D cy (fun q => A q ∧ q ≠ ad 60) [.ref (ad 0), .int (iI a), .int (iI b), .int (iI d)] H0) zN (zX "java/lang/IllegalStateException" H0 (fun q => A q ∧ q ≠ ad 60)) 1 6 (fun q => A q ∧ q ≠ ad 60)) :
    vx_Met l yL_delay wsL_delay ({ frames := 7, cells := 1, slots := 6, locals := 114 }) (zPc D cy A [.ref (ad 0), .int (iI a), .int (iI b), .int (iI d), .ref (ad 60)] H0) (zQi (fun c H2 => c = 3 ∧ zW D A ad (va_up e1 60 (some (.inl (cy 3, 1, .inr (.inl fo))))) H2) A) (fun _ _ _ => False) 1 6 A := by
  refine vx_ofWH (cc := cL_delay) (maxL := 6) (ret := some .int) (hh := [(0, 12, 15, 47), (0, 12, 19, 15), (0, 12, 23, 42)]) (by decide) rfl ?_
  intro pg en s mt args below meth c s₁ B hml hv
  obtain ⟨rfl, hH, hE⟩ := hv
  subst hH
  have hx := B.exec
  have hb := B.bytes
  have hr := B.returns
  have hts := atoms_spec (ws := wsL_delay) B.pre
  have hown : s.vm.findClass RL = some mt.cls := findClass_of_methodNamed B.named
  have hlocks := B.notSynchronized
  have htab := vx_table (x := yL_delay) B (hts _ List.mem_cons_self)
  have hS : va_S A s.heap s.heap [] := va_S.rf
  have hl := lv_entry ([.ref (ad 0), .int (iI a), .int (iI b), .int (iI d), .ref (ad 60)]) (n := 6) (Nat.le_of_ble_eq_true rfl)
  rw [lg_entry_eq]
  generalize (lg_sl ([.ref (ad 0), .int (iI a), .int (iI b), .int (iI d), .ref (ad 60)]) ++ List.replicate (6 - (lg_sl ([.ref (ad 0), .int (iI a), .int (iI b), .int (iI d), .ref (ad 60)])).length) Slot.unset).toArray = ls at hl ⊢
  have hl : lv_has ls 6 [(0, .ref (ad 0)), (1, .int (iI a)), (2, .int (iI b)), (3, .int (iI d)), (4, .ref (ad 60))] := hl
  have hBA : ∀ q, (A q ∧ q ≠ ad 60) → A q := fun q h => h.1
  refine lv_aload hx hb dL_delay_0 (lv_at hl 4 rfl) ?_
  refine zi_const hx hb dL_delay_2 ?_
  refine lv_aload_n hx hb dL_delay_3 rfl (lv_at hl 0 rfl) ?_
  refine lv_iload_n hx hb dL_delay_4 rfl (lv_at hl 1 rfl) ?_
  refine lv_iload_n hx hb dL_delay_5 rfl (lv_at hl 2 rfl) ?_
  refine lv_iload_n hx hb dL_delay_6 rfl (lv_at hl 3 rfl) ?_
  refine zxcatch (own := RL) (name := "java/lang/IllegalStateException") hBA (vx_runV (As := [.int (iI a), .int (iI b), .int (iI d)]) (rest := [.int (iI 0), .ref (ad 60)]) ⟨hx, hb, hml, hown, hts⟩ hM (cwV 3 hts gL_delay_X1_delay rfl rfl rfl (by decide +kernel) ⟨(Nat.le_of_ble_eq_true rfl), (Nat.le_of_ble_eq_true rfl)⟩) (zPVn hBA hE hS hw (ci := 1) (k0 := 0) rfl ((up_ne _ _ (by decide)).trans he)) rfl rfl hl.1 rfl (lv_room (Nat.le_of_ble_eq_true rfl)) dL_delay_7 ⟨(Nat.le_of_ble_eq_true rfl), (Nat.le_of_ble_eq_true rfl)⟩) hS hown [⟨0, 12, 15, 47⟩, ⟨0, 12, 19, 15⟩] ⟨0, 12, 23, 42⟩ [] htab (by intro z hz; simp only [List.mem_cons, List.not_mem_nil, or_false] at hz; rcases hz with rfl | rfl; exact Or.inr ⟨by decide, _, hts (.classLink RL 47 "java/util/NoSuchElementException") (by decide +kernel), hE.2.2.2.2.2.1 ("java/lang/IllegalStateException", "java/util/NoSuchElementException") (by decide +kernel)⟩; exact Or.inr ⟨by decide, _, hts (.classLink RL 15 "java/lang/IllegalArgumentException") (by decide +kernel), hE.2.2.2.2.2.1 ("java/lang/IllegalStateException", "java/lang/IllegalArgumentException") (by decide +kernel)⟩) (by decide) (by decide) (hts (.classLink RL 42 "java/lang/IllegalStateException") (by decide +kernel)) (zFace_use _ (by decide +kernel) (hE.2.2.2.2.2.2.1 _ (by decide +kernel))) (fun q H1 locs hz1 hk1 hS => ?_)
  have hw := hw.grow hk1
  refine lv_astore (lv' := [(5, .ref q), (0, .ref (ad 0)), (1, .int (iI a)), (2, .int (iI b)), (3, .int (iI d)), (4, .ref (ad 60))]) hx hb dL_delay_23 hl (by decide) rfl (fun ls hl => ?_)
  refine zi_const hx hb dL_delay_25 ?_
  exact vx_ret (ziret hx hb hr hlocks hS (Nat.le_of_ble_eq_true rfl) (Nat.le_of_ble_eq_true rfl) (z := 3) (by decide) ⟨rfl, hw⟩ dL_delay_26)
