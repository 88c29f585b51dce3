theorem zWA {mi : Nat → Int} {ma mb mc : Nat → Nat → Int} {p : Nat} (hU : aU ma mb) (hw : wU p mb mc) (hv : wV mi mb p mc) (hV : ∀ q, q < p → ma 7 q = 1 → wV mi ma q mb) : ∀ q, q < p + 1 → ma 7 q = 1 → wV mi ma q mc := by
  intro q hq h7
  have e8 : mb 8 = ma 8 := aU_row hU (by decide)
  have e9 : mb 9 = ma 9 := aU_row hU (by decide)
  have e11 : mb 11 = ma 11 := aU_row hU (by decide)
  have e12 : mb 12 = ma 12 := aU_row hU (by decide)
  have e14 : mb 14 = ma 14 := aU_row hU (by decide)
  have e1 : mb 1 = ma 1 := aU_row hU (by decide)
  by_cases hp : q = p
  · subst hp
    unfold wV at hv ⊢
    rw [e1, e8, e11, endM_c e8 e9 e12 e14] at hv
    exact hv
  · have h := hV q (by omega) h7
    unfold wV at h ⊢
    rw [hw 15 q (by omega), hw 16 q (by omega), hw 17 q (by omega)]
    exact h
set_option maxHeartbeats 4000000 in
set_option maxRecDepth 100000 in
theorem c_X2_isBusy (l : Launch) (D : va_G) (cy : Nat → ClassId) (A : Nat → Prop) (ad : Nat → Nat) (mi : Nat → Int) (ma : Nat → Nat → Int) (H0 : Heap) (p : Nat) (h : Int) (hw : zW D A ad (mE cy ad mi ma) H0) (hp : p < 11) (h1 : zr h) (hb7 : ∀ j, j < 11 → ma 7 j = 0 ∨ ma 7 j = 1) (hr9 : ma 7 p = 1 → zr (ma 15 p) ∧ zr (ma 17 p)) : Met l yX2_isBusy wsX2_isBusy ({ frames := 0, cells := 0, slots := 0, locals := 0 }) (zPc D cy A [.ref (ad 0), .int (iI ((p : Int))), .int (iI (h))] H0) (zQi (fun z H1 => H1 = H0 ∧ ((z = 1 ∧ ma 7 p = 1 ∧ ma 15 p ≤ h ∧ h < ma 17 p) ∨ (z = 0 ∧ ¬ (ma 7 p = 1 ∧ ma 15 p ≤ h ∧ h < ma 17 p)))) A) 0 0 A := by
  refine Met.ofW (cc := cX2_isBusy) (maxL := 3) (ret := (some .boolean)) (by decide) rfl ?_
  intro pg en s mt args below meth c s₁ B hml hv
  obtain ⟨rfl, hH, hE⟩ := hv
  subst hH
  have hx := B.exec
  have hb := B.bytes
  have hr := B.returns
  have hts := atoms_spec (ws := wsX2_isBusy) B.pre
  have hown : s.vm.findClass RX2 = some mt.cls := findClass_of_methodNamed B.named
  have hlocks := B.notSynchronized
  have hinX2 : ∀ w ∈ u_ws RX2 TX2 19, w ∈ wsX2_isBusy := by decide +kernel
  have hS : va_S A s.heap s.heap [] := va_S.rf
  have hl := lv_entry ([.ref (ad 0), .int (iI ((p : Int))), .int (iI (h))]) (n := 3) (Nat.le_of_ble_eq_true rfl)
  rw [lg_entry_eq]
  generalize (lg_sl ([.ref (ad 0), .int (iI ((p : Int))), .int (iI (h))]) ++ List.replicate (3 - (lg_sl ([.ref (ad 0), .int (iI ((p : Int))), .int (iI (h))])).length) Slot.unset).toArray = ls at hl ⊢
  have hl : lv_has ls 3 [(0, .ref (ad 0)), (1, .int (iI ((p : Int)))), (2, .int (iI (h)))] := hl
  refine lv_aload_n hx hb dX2_isBusy_0 rfl (lv_at hl 0 rfl) ?_
  refine zget (C := RX2) (T := TX2) (N := 19) hx hb hts hinX2 hown hE hw 0 mE_0 rfl 7 (by decide) (hts (.fieldLink RX2 29 "FormworkYardModel" "isThere" "[Z") (by decide +kernel)) rfl dX2_isBusy_1 ?_
  refine lv_iload_n hx hb dX2_isBusy_4 rfl (lv_at hl 1 rfl) ?_
  refine zzald hx hb hE hw 7 (mE_a 7 (by decide) rfl) p rfl (by omega) (by omega) dX2_isBusy_5 ?_
  refine zi_top (fun v_5 hv_5 => ?_)
  have hB := hb7 p (by omega)
  refine zf_eq (tgt := 33) hx hb dX2_isBusy_6 (by decide) (by first | decide | (constructor <;> omega)) (fun c_6 => ?_) (fun c_6 => ?_)
  · refine zi_const hx hb dX2_isBusy_33 ?_
    refine zzret hx hb hr hlocks hS (Nat.le_of_ble_eq_true rfl) (Nat.le_of_ble_eq_true rfl) (by omega) ?_ dX2_isBusy_34
    exact ⟨rfl, by omega⟩
  · have hR := hr9 (by omega)
    refine lv_iload_n hx hb dX2_isBusy_9 rfl (lv_at hl 2 rfl) ?_
    refine lv_aload_n hx hb dX2_isBusy_10 rfl (lv_at hl 0 rfl) ?_
    refine zget (C := RX2) (T := TX2) (N := 19) hx hb hts hinX2 hown hE hw 0 mE_0 rfl 15 (by decide) (hts (.fieldLink RX2 54 "FormworkYardModel" "stands" "[I") (by decide +kernel)) rfl dX2_isBusy_11 ?_
    refine lv_iload_n hx hb dX2_isBusy_14 rfl (lv_at hl 1 rfl) ?_
    refine ziald hx hb hE hw 15 (mE_a 15 (by decide) rfl) p rfl (by omega) (by omega) dX2_isBusy_15 ?_
    refine zi_top (fun v_15 hv_15 => ?_)
    refine zc_lt (tgt := 33) hx hb dX2_isBusy_16 (by decide) (by first | decide | (constructor <;> omega)) (by first | decide | (constructor <;> omega)) (fun c_16 => ?_) (fun c_16 => ?_)
    · refine zi_const hx hb dX2_isBusy_33 ?_
      refine zzret hx hb hr hlocks hS (Nat.le_of_ble_eq_true rfl) (Nat.le_of_ble_eq_true rfl) (by omega) ?_ dX2_isBusy_34
      exact ⟨rfl, by omega⟩
    · refine lv_iload_n hx hb dX2_isBusy_19 rfl (lv_at hl 2 rfl) ?_
      refine lv_aload_n hx hb dX2_isBusy_20 rfl (lv_at hl 0 rfl) ?_
      refine zget (C := RX2) (T := TX2) (N := 19) hx hb hts hinX2 hown hE hw 0 mE_0 rfl 17 (by decide) (hts (.fieldLink RX2 60 "FormworkYardModel" "frees" "[I") (by decide +kernel)) rfl dX2_isBusy_21 ?_
      refine lv_iload_n hx hb dX2_isBusy_24 rfl (lv_at hl 1 rfl) ?_
      refine ziald hx hb hE hw 17 (mE_a 17 (by decide) rfl) p rfl (by omega) (by omega) dX2_isBusy_25 ?_
      refine zi_top (fun v_25 hv_25 => ?_)
      refine zc_ge (tgt := 33) hx hb dX2_isBusy_26 (by decide) (by first | decide | (constructor <;> omega)) (by first | decide | (constructor <;> omega)) (fun c_26 => ?_) (fun c_26 => ?_)
      · refine zi_const hx hb dX2_isBusy_33 ?_
        refine zzret hx hb hr hlocks hS (Nat.le_of_ble_eq_true rfl) (Nat.le_of_ble_eq_true rfl) (by omega) ?_ dX2_isBusy_34
        exact ⟨rfl, by omega⟩
      · refine zi_const hx hb dX2_isBusy_29 ?_
        refine lv_goto (tgt := 34) hx hb dX2_isBusy_30 (by decide) ?_
        refine zzret hx hb hr hlocks hS (Nat.le_of_ble_eq_true rfl) (Nat.le_of_ble_eq_true rfl) (by omega) ?_ dX2_isBusy_34
        exact ⟨rfl, by omega⟩

set_option maxHeartbeats 4000000 in
set_option maxRecDepth 100000 in
theorem c_X2_worksAll (l : Launch) (D : va_G) (cy : Nat → ClassId) (A : Nat → Prop) (ad : Nat → Nat) (mi : Nat → Int) (ma : Nat → Nat → Int) (H0 : Heap) (hw : zW D A ad (mE cy ad mi ma) H0) (hm0 : mOK mi ma) : Met l yX2_worksAll wsX2_worksAll ({ frames := 4, cells := 0, slots := 0, locals := 87 }) (zPc D cy A [.ref (ad 0)] H0) (zQv (fun H1 => ∃ mb, zW D A ad (mE cy ad mi mb) H1 ∧ aU ma mb ∧ ∀ q, q < 10 → ma 7 q = 1 → wV mi ma q mb) A) 0 0 A := by
  refine Met.ofW (cc := cX2_worksAll) (maxL := 2) (ret := none) (by decide) rfl ?_
  intro pg en s mt args below meth c s₁ B hml hv
  obtain ⟨rfl, hH, hE⟩ := hv
  subst hH
  have hx := B.exec
  have hb := B.bytes
  have hr := B.returns
  have hts := atoms_spec (ws := wsX2_worksAll) B.pre
  have hown : s.vm.findClass RX2 = some mt.cls := findClass_of_methodNamed B.named
  have hlocks := B.notSynchronized
  have hinX2 : ∀ w ∈ u_ws RX2 TX2 19, w ∈ wsX2_worksAll := by decide +kernel
  have hS : va_S A s.heap s.heap [] := va_S.rf
  have hl := lv_entry ([.ref (ad 0)]) (n := 2) (Nat.le_of_ble_eq_true rfl)
  rw [lg_entry_eq]
  generalize (lg_sl ([.ref (ad 0)]) ++ List.replicate (2 - (lg_sl ([.ref (ad 0)])).length) Slot.unset).toArray = ls at hl ⊢
  have hl : lv_has ls 2 [(0, .ref (ad 0))] := hl
  obtain ⟨ht, hg, hb7, hpo⟩ := id hm0
  refine zi_const hx hb dX2_worksAll_0 ?_
  refine lv_istore_n (lv' := [(1, .int (iI (0))), (0, .ref (ad 0))]) hx hb dX2_worksAll_1 rfl hl (by decide) rfl (fun ls hl => ?_)
  have loop_2 : ∀ (n : Nat) (p : Nat) (mb : Nat → Nat → Int) (H : Heap) (locs : List Loc) (ls : Array Slot), 10 - p < n → (p ≤ 10) → (aU ma mb) → (∀ q, q < p → ma 7 q = 1 → wV mi ma q mb) → zW D A ad (mE cy ad mi mb) H → va_S A s.heap H locs → lv_has ls 2 [(1, .int (iI ((p : Int)))), (0, .ref (ad 0))] → W pg l en (headSpec wsX2_worksAll ({ frames := 4, cells := 0, slots := 0, locals := 87 })).room s mt ([.ref (ad 0)] : List Value).toArray below meth c H locs 0 0 (MQ below (zQv (fun H1 => ∃ mb, zW D A ad (mE cy ad mi mb) H1 ∧ aU ma mb ∧ ∀ q, q < 10 → ma 7 q = 1 → wV mi ma q mb) A) ([.ref (ad 0)] : List Value).toArray s 0 0 A) (F0 mt 2 ls []) := by
    intro n
    induction n with
    | zero =>
      intro p mb H locs ls hm hp10 hU hV
      exfalso; omega
    | succ n ih =>
      intro p mb H locs ls hm hp10 hU hV hw hS hl
      have r7 : mb 7 = ma 7 := aU_row hU (by decide)
      refine lv_iload_n hx hb dX2_worksAll_2 rfl (lv_at hl 0 rfl) ?_
      refine zi_bipush hx hb dX2_worksAll_3 (by decide) ?_
      refine zc_ge (tgt := 28) hx hb dX2_worksAll_5 (by decide) (by first | decide | (constructor <;> omega)) (by first | decide | (constructor <;> omega)) (fun c_5 => ?_) (fun c_5 => ?_)
      · refine zvret hx hb hr hlocks hS (Nat.le_of_ble_eq_true rfl) (Nat.le_of_ble_eq_true rfl) ?_ dX2_worksAll_28
        exact ⟨_, hw, hU, fun q hq h7 => hV q (by omega) h7⟩
      · refine lv_aload_n hx hb dX2_worksAll_8 rfl (lv_at hl 1 rfl) ?_
        refine zget (C := RX2) (T := TX2) (N := 19) hx hb hts hinX2 hown hE hw 0 mE_0 rfl 7 (by decide) (hts (.fieldLink RX2 29 "FormworkYardModel" "isThere" "[Z") (by decide +kernel)) rfl dX2_worksAll_9 ?_
        refine lv_iload_n hx hb dX2_worksAll_12 rfl (lv_at hl 0 rfl) ?_
        refine zzald hx hb hE hw 7 (mE_a 7 (by decide) rfl) p rfl (by omega) (by omega) dX2_worksAll_13 ?_
        refine zi_top (fun v_13 hv_13 => ?_)
        rw [r7] at hv_13
        have hB := hb7 p (by omega)
        refine zf_eq (tgt := 22) hx hb dX2_worksAll_14 (by decide) (by first | decide | (constructor <;> omega)) (fun c_14 => ?_) (fun c_14 => ?_)
        · refine zi_iinc (lv' := [(1, .int (iI ((p : Int) + 1))), (0, .ref (ad 0))]) hx hb dX2_worksAll_22 hl (k := 0) rfl (by decide) rfl (fun ls hl => ?_)
          refine lv_goto (tgt := 2) hx hb dX2_worksAll_25 (by decide) ?_
          exact ih (p + 1) mb _ _ _ (by omega) (by omega) hU (fun q hq h7 => by rcases Nat.lt_or_ge q p with h | h; exact hV q h h7; exact absurd h7 (by have e : q = p := (by omega); subst e; omega)) hw hS (lv_sub hl [0, 1] rfl)
        · have hpo2 : pOK mb p := (pOK_c (aU_row hU (by decide)) (aU_row hU (by decide)) (aU_row hU (by decide)) (aU_row hU (by decide)) (aU_row hU (by decide)) (aU_row hU (by decide)) (aU_row hU (by decide))).mpr (hpo p (by omega) (by omega))
          have ht2 : tOK (mb 1) := by rw [aU_row hU (show (1:Nat) < 15 ∨ 17 < 1 by decide)]; exact ht
          refine lv_aload_n hx hb dX2_worksAll_17 rfl (lv_at hl 1 rfl) ?_
          refine lv_iload_n hx hb dX2_worksAll_18 rfl (lv_at hl 0 rfl) ?_
          refine zcallv (va_runV (As := [.int (iI ((p : Int)))]) (rest := []) ⟨hx, hb, hml, hown, hts⟩ (c_X2_works l D cy A ad mi mb _ p hw (by omega) ht2 hg hpo2) (cwV 1 hts gX2_worksAll_X2_works rfl rfl rfl (by decide +kernel) ⟨(Nat.le_of_ble_eq_true rfl), (Nat.le_of_ble_eq_true rfl)⟩) (zPV hE hS hw (ci := 2) (k0 := 0) rfl mE_0) rfl rfl hl.1 rfl (lv_room (Nat.le_of_ble_eq_true rfl)) dX2_worksAll_19 ⟨(Nat.le_of_ble_eq_true rfl), (Nat.le_of_ble_eq_true rfl)⟩) hS (fun H1 locs hq hz1 hk1 hS => ?_)
          obtain ⟨ma_w19, hw, hwU_19, hwV_19⟩ := hq
          refine zi_iinc (lv' := [(1, .int (iI ((p : Int) + 1))), (0, .ref (ad 0))]) hx hb dX2_worksAll_22 hl (k := 0) rfl (by decide) rfl (fun ls hl => ?_)
          refine lv_goto (tgt := 2) hx hb dX2_worksAll_25 (by decide) ?_
          have hU2 : aU ma ma_w19 := fun r j hj => by rw [hwU_19 r j (by omega), hU r j hj]
          have hV2 : ∀ q, q < p + 1 → ma 7 q = 1 → wV mi ma q ma_w19 := zWA hU hwU_19 hwV_19 hV
          exact ih (p + 1) ma_w19 _ _ _ (by omega) (by omega) hU2 hV2 hw hS (lv_sub hl [0, 1] rfl)
  exact loop_2 11 0 ma _ _ _ (by omega) (by omega) (fun _ _ _ => rfl) (fun q hq => absurd hq (Nat.not_lt_zero q)) hw hS (lv_sub hl [0, 1] rfl)

set_option maxHeartbeats 4000000 in
set_option maxRecDepth 100000 in
theorem c_X2_needOf (l : Launch) (D : va_G) (cy : Nat → ClassId) (A : Nat → Prop) (ad : Nat → Nat) (mi : Nat → Int) (ma : Nat → Nat → Int) (H0 : Heap) (h : Int) (hw : zW D A ad (mE cy ad mi ma) H0) (h1 : zr h) (hb7 : ∀ j, j < 11 → ma 7 j = 0 ∨ ma 7 j = 1) (hr9 : ∀ q, q < 10 → ma 7 q = 1 → zr (ma 15 q) ∧ zr (ma 17 q) ∧ 1 ≤ ma 10 q ∧ ma 10 q ≤ 30) : Met l yX2_needOf wsX2_needOf ({ frames := 1, cells := 0, slots := 0, locals := 22 }) (zPc D cy A [.ref (ad 0), .int (iI (h))] H0) (zQi (fun z H1 => H1 = H0 ∧ z = nsum ma h 10) A) 0 0 A := by
  refine Met.ofW (cc := cX2_needOf) (maxL := 4) (ret := (some .int)) (by decide) rfl ?_
  intro pg en s mt args below meth c s₁ B hml hv
  obtain ⟨rfl, hH, hE⟩ := hv
  subst hH
  have hx := B.exec
  have hb := B.bytes
  have hr := B.returns
  have hts := atoms_spec (ws := wsX2_needOf) B.pre
  have hown : s.vm.findClass RX2 = some mt.cls := findClass_of_methodNamed B.named
  have hlocks := B.notSynchronized
  have hinX2 : ∀ w ∈ u_ws RX2 TX2 19, w ∈ wsX2_needOf := by decide +kernel
  have hS : va_S A s.heap s.heap [] := va_S.rf
  have hl := lv_entry ([.ref (ad 0), .int (iI (h))]) (n := 4) (Nat.le_of_ble_eq_true rfl)
  rw [lg_entry_eq]
  generalize (lg_sl ([.ref (ad 0), .int (iI (h))]) ++ List.replicate (4 - (lg_sl ([.ref (ad 0), .int (iI (h))])).length) Slot.unset).toArray = ls at hl ⊢
  have hl : lv_has ls 4 [(0, .ref (ad 0)), (1, .int (iI (h)))] := hl
  refine zi_const hx hb dX2_needOf_0 ?_
  refine lv_istore_n (lv' := [(2, .int (iI (0))), (0, .ref (ad 0)), (1, .int (iI (h)))]) hx hb dX2_needOf_1 rfl hl (by decide) rfl (fun ls hl => ?_)
  refine zi_const hx hb dX2_needOf_2 ?_
  refine lv_istore_n (lv' := [(3, .int (iI (0))), (2, .int (iI (0))), (0, .ref (ad 0)), (1, .int (iI (h)))]) hx hb dX2_needOf_3 rfl hl (by decide) rfl (fun ls hl => ?_)
  have loop_4 : ∀ (n : Nat) (p : Nat) (w : Int) (locs : List Loc) (ls : Array Slot), 10 - p < n → (p ≤ 10) → (w = nsum ma h p) → va_S A s.heap s.heap locs → lv_has ls 4 [(3, .int (iI ((p : Int)))), (2, .int (iI (w))), (0, .ref (ad 0)), (1, .int (iI (h)))] → W pg l en (headSpec wsX2_needOf ({ frames := 1, cells := 0, slots := 0, locals := 22 })).room s mt ([.ref (ad 0), .int (iI (h))] : List Value).toArray below meth c s.heap locs 0 0 (MQ below (zQi (fun z H1 => H1 = s.heap ∧ z = nsum ma h 10) A) ([.ref (ad 0), .int (iI (h))] : List Value).toArray s 0 0 A) (F0 mt 4 ls []) := by
    intro n
    induction n with
    | zero =>
      intro p w locs ls hm hp10 hk
      exfalso; omega
    | succ n ih =>
      intro p w locs ls hm hp10 hk hS hl
      have hns := nsum_b (ma := ma) (h := h) (n := p) (fun q hq h7 => (hr9 q (by omega) h7).2.2)
      refine lv_iload_n hx hb dX2_needOf_4 rfl (lv_at hl 0 rfl) ?_
      refine zi_bipush hx hb dX2_needOf_5 (by decide) ?_
      refine zc_ge (tgt := 38) hx hb dX2_needOf_7 (by decide) (by first | decide | (constructor <;> omega)) (by first | decide | (constructor <;> omega)) (fun c_7 => ?_) (fun c_7 => ?_)
      · refine lv_iload_n hx hb dX2_needOf_38 rfl (lv_at hl 1 rfl) ?_
        refine ziret hx hb hr hlocks hS (Nat.le_of_ble_eq_true rfl) (Nat.le_of_ble_eq_true rfl) (by first | decide | (constructor <;> omega)) ?_ dX2_needOf_39
        exact ⟨rfl, by rw [hk, show p = 10 by omega]⟩
      · refine lv_iload_n hx hb dX2_needOf_10 rfl (lv_at hl 1 rfl) ?_
        refine lv_aload_n hx hb dX2_needOf_11 rfl (lv_at hl 2 rfl) ?_
        refine lv_iload_n hx hb dX2_needOf_12 rfl (lv_at hl 0 rfl) ?_
        refine lv_iload_n hx hb dX2_needOf_13 rfl (lv_at hl 3 rfl) ?_
        refine zcalli (va_runV (As := [.int (iI ((p : Int))), .int (iI (h))]) (rest := [.int (iI (w))]) ⟨hx, hb, hml, hown, hts⟩ (c_X2_isBusy l D cy A ad mi ma _ p (h) hw (by omega) (by first | decide | (constructor <;> omega)) hb7 (fun q => ⟨(hr9 _ (by omega) q).1, (hr9 _ (by omega) q).2.1⟩)) (cwV 2 hts gX2_needOf_X2_isBusy rfl rfl rfl (by decide +kernel) ⟨(Nat.le_of_ble_eq_true rfl), (Nat.le_of_ble_eq_true rfl)⟩) (zPV hE hS hw (ci := 2) (k0 := 0) rfl mE_0) rfl rfl hl.1 rfl (lv_room (Nat.le_of_ble_eq_true rfl)) dX2_needOf_14 ⟨(Nat.le_of_ble_eq_true rfl), (Nat.le_of_ble_eq_true rfl)⟩) hS (fun z_14 H1 locs hz_14 hq hz1 hk1 hS => ?_)
        obtain ⟨hqe, hv_14⟩ := hq
        replace hqe := hqe.symm
        subst hqe
        refine zf_eq (tgt := 29) hx hb dX2_needOf_17 (by decide) (by first | decide | (constructor <;> omega)) (fun c_17 => ?_) (fun c_17 => ?_)
        · refine zi_const hx hb dX2_needOf_29 ?_
          refine zi_add hx hb dX2_needOf_30 ?_
          refine zi_top (fun x_31 hx_31 => ?_)
          refine lv_istore_n (lv' := [(2, .int (iI (x_31))), (3, .int (iI ((p : Int)))), (0, .ref (ad 0)), (1, .int (iI (h)))]) hx hb dX2_needOf_31 rfl hl (by decide) rfl (fun ls hl => ?_)
          refine zi_iinc (lv' := [(3, .int (iI ((p : Int) + 1))), (2, .int (iI (x_31))), (0, .ref (ad 0)), (1, .int (iI (h)))]) hx hb dX2_needOf_32 hl (k := 1) rfl (by decide) rfl (fun ls hl => ?_)
          refine lv_goto (tgt := 4) hx hb dX2_needOf_35 (by decide) ?_
          exact ih (p + 1) x_31 _ _ (by omega) (by omega) (by simp only [nsum]; rw [if_neg (by omega)]; omega) hS (lv_sub hl [0, 1, 2, 3] rfl)
        · refine lv_aload_n hx hb dX2_needOf_20 rfl (lv_at hl 2 rfl) ?_
          refine zget (C := RX2) (T := TX2) (N := 19) hx hb hts hinX2 hown hE hw 0 mE_0 rfl 10 (by decide) (hts (.fieldLink RX2 39 "FormworkYardModel" "needs" "[I") (by decide +kernel)) rfl dX2_needOf_21 ?_
          refine lv_iload_n hx hb dX2_needOf_24 rfl (lv_at hl 0 rfl) ?_
          refine ziald hx hb hE hw 10 (mE_a 10 (by decide) rfl) p rfl (by omega) (by omega) dX2_needOf_25 ?_
          refine zi_top (fun v_25 hv_25 => ?_)
          refine lv_goto (tgt := 30) hx hb dX2_needOf_26 (by decide) ?_
          refine zi_add hx hb dX2_needOf_30 ?_
          refine zi_top (fun x_31 hx_31 => ?_)
          refine lv_istore_n (lv' := [(2, .int (iI (x_31))), (3, .int (iI ((p : Int)))), (0, .ref (ad 0)), (1, .int (iI (h)))]) hx hb dX2_needOf_31 rfl hl (by decide) rfl (fun ls hl => ?_)
          refine zi_iinc (lv' := [(3, .int (iI ((p : Int) + 1))), (2, .int (iI (x_31))), (0, .ref (ad 0)), (1, .int (iI (h)))]) hx hb dX2_needOf_32 hl (k := 1) rfl (by decide) rfl (fun ls hl => ?_)
          refine lv_goto (tgt := 4) hx hb dX2_needOf_35 (by decide) ?_
          exact ih (p + 1) x_31 _ _ (by omega) (by omega) (by simp only [nsum]; rw [if_pos (by omega)]; omega) hS (lv_sub hl [0, 1, 2, 3] rfl)
  exact loop_4 11 0 0 _ _ (by omega) (by omega) rfl hS (lv_sub hl [0, 1, 2, 3] rfl)

set_option maxHeartbeats 4000000 in
set_option maxRecDepth 100000 in
theorem c_X2_thrown (l : Launch) (D : va_G) (cy : Nat → ClassId) (A : Nat → Prop) (ad : Nat → Nat) (mi : Nat → Int) (ma : Nat → Nat → Int) (H0 : Heap) (hw : zW D A ad (mE cy ad mi ma) H0) (h0 : zr (mi 0)) : Met l yX2_thrown wsX2_thrown ({ frames := 0, cells := 0, slots := 0, locals := 0 }) (zPc D cy A [.ref (ad 0)] H0) (zQi (fun z H1 => H1 = H0 ∧ z = mi 0) A) 0 0 A := by
  refine Met.ofW (cc := cX2_thrown) (maxL := 1) (ret := (some .int)) (by decide) rfl ?_
  intro pg en s mt args below meth c s₁ B hml hv
  obtain ⟨rfl, hH, hE⟩ := hv
  subst hH
  have hx := B.exec
  have hb := B.bytes
  have hr := B.returns
  have hts := atoms_spec (ws := wsX2_thrown) B.pre
  have hown : s.vm.findClass RX2 = some mt.cls := findClass_of_methodNamed B.named
  have hlocks := B.notSynchronized
  have hinX2 : ∀ w ∈ u_ws RX2 TX2 19, w ∈ wsX2_thrown := by decide +kernel
  have hS : va_S A s.heap s.heap [] := va_S.rf
  have hl := lv_entry ([.ref (ad 0)]) (n := 1) (Nat.le_of_ble_eq_true rfl)
  rw [lg_entry_eq]
  generalize (lg_sl ([.ref (ad 0)]) ++ List.replicate (1 - (lg_sl ([.ref (ad 0)])).length) Slot.unset).toArray = ls at hl ⊢
  have hl : lv_has ls 1 [(0, .ref (ad 0))] := hl
  refine lv_aload_n hx hb dX2_thrown_0 rfl (lv_at hl 0 rfl) ?_
  refine zget (C := RX2) (T := TX2) (N := 19) hx hb hts hinX2 hown hE hw 0 mE_0 rfl 0 (by decide) (hts (.fieldLink RX2 66 "FormworkYardModel" "thrown" "I") (by decide +kernel)) rfl dX2_thrown_1 ?_
  refine ziret hx hb hr hlocks hS (Nat.le_of_ble_eq_true rfl) (Nat.le_of_ble_eq_true rfl) (by first | decide | (constructor <;> omega)) ?_ dX2_thrown_4
  exact ⟨rfl, rfl⟩

set_option maxHeartbeats 4000000 in
set_option maxRecDepth 100000 in
theorem c_X2_fails (l : Launch) (D : va_G) (cy : Nat → ClassId) (A : Nat → Prop) (ad : Nat → Nat) (mi : Nat → Int) (ma : Nat → Nat → Int) (H0 : Heap) (k : Int) (hw : zW D A ad (mE cy ad mi ma) H0) (h1 : zr k) : Met l yX2_fails wsX2_fails ({ frames := 0, cells := 0, slots := 0, locals := 0 }) (zPc D cy A [.ref (ad 0), .int (iI (k))] H0) (zQi (fun z H1 => zW D A ad (mE cy ad (va_up mi 0 k) ma) H1 ∧ z = 0) A) 0 0 A := by
  refine Met.ofW (cc := cX2_fails) (maxL := 2) (ret := (some .int)) (by decide) rfl ?_
  intro pg en s mt args below meth c s₁ B hml hv
  obtain ⟨rfl, hH, hE⟩ := hv
  subst hH
  have hx := B.exec
  have hb := B.bytes
  have hr := B.returns
  have hts := atoms_spec (ws := wsX2_fails) B.pre
  have hown : s.vm.findClass RX2 = some mt.cls := findClass_of_methodNamed B.named
  have hlocks := B.notSynchronized
  have hinX2 : ∀ w ∈ u_ws RX2 TX2 19, w ∈ wsX2_fails := by decide +kernel
  have hS : va_S A s.heap s.heap [] := va_S.rf
  have hl := lv_entry ([.ref (ad 0), .int (iI (k))]) (n := 2) (Nat.le_of_ble_eq_true rfl)
  rw [lg_entry_eq]
  generalize (lg_sl ([.ref (ad 0), .int (iI (k))]) ++ List.replicate (2 - (lg_sl ([.ref (ad 0), .int (iI (k))])).length) Slot.unset).toArray = ls at hl ⊢
  have hl : lv_has ls 2 [(0, .ref (ad 0)), (1, .int (iI (k)))] := hl
  refine lv_aload_n hx hb dX2_fails_0 rfl (lv_at hl 0 rfl) ?_
  refine lv_iload_n hx hb dX2_fails_1 rfl (lv_at hl 1 rfl) ?_
  refine zput (C := RX2) (T := TX2) (N := 19) hx hb hts hinX2 tyX2 tyX2_ok nmX2 hown hE hS hw 0 mE_0 rfl 0 (by decide) (hts (.fieldLink RX2 66 "FormworkYardModel" "thrown" "I") (by decide +kernel)) rfl (ty := .int) (by decide +kernel) rfl rfl (Nat.le_of_ble_eq_true rfl) dX2_fails_2 (fun H locs hw hS => ?_)
  have hw := hw.cong (mU_i 0 (by decide) (k))
  refine zi_const hx hb dX2_fails_5 ?_
  refine ziret hx hb hr hlocks hS (Nat.le_of_ble_eq_true rfl) (Nat.le_of_ble_eq_true rfl) (by first | decide | (constructor <;> omega)) ?_ dX2_fails_6
  exact ⟨hw, rfl⟩

set_option maxHeartbeats 4000000 in
set_option maxRecDepth 100000 in
theorem c_X2_temperature (l : Launch) (D : va_G) (cy : Nat → ClassId) (A : Nat → Prop) (ad : Nat → Nat) (mi : Nat → Int) (ma : Nat → Nat → Int) (H0 : Heap) (h : Int) (hw : zW D A ad (mE cy ad mi ma) H0) (h1 : zr h) (ht : tOK (ma 1)) : Met l yX2_temperature wsX2_temperature ({ frames := 2, cells := 0, slots := 0, locals := 42 }) (zPc D cy A [.ref (ad 0), .int (iI (h))] H0) (zQi (fun z H1 => ∃ c, zW D A ad (mE cy ad (va_up mi 0 c) ma) H1 ∧ c = (if 0 ≤ h ∧ h < 1000 then 0 else 1) ∧ (c = 0 → z = ma 1 h.toNat)) A) 0 0 A := by
  refine Met.ofW (cc := cX2_temperature) (maxL := 2) (ret := (some .int)) (by decide) rfl ?_
  intro pg en s mt args below meth c s₁ B hml hv
  obtain ⟨rfl, hH, hE⟩ := hv
  subst hH
  have hx := B.exec
  have hb := B.bytes
  have hr := B.returns
  have hts := atoms_spec (ws := wsX2_temperature) B.pre
  have hown : s.vm.findClass RX2 = some mt.cls := findClass_of_methodNamed B.named
  have hlocks := B.notSynchronized
  have hinX2 : ∀ w ∈ u_ws RX2 TX2 19, w ∈ wsX2_temperature := by decide +kernel
  have hS : va_S A s.heap s.heap [] := va_S.rf
  have hl := lv_entry ([.ref (ad 0), .int (iI (h))]) (n := 2) (Nat.le_of_ble_eq_true rfl)
  rw [lg_entry_eq]
  generalize (lg_sl ([.ref (ad 0), .int (iI (h))]) ++ List.replicate (2 - (lg_sl ([.ref (ad 0), .int (iI (h))])).length) Slot.unset).toArray = ls at hl ⊢
  have hl : lv_has ls 2 [(0, .ref (ad 0)), (1, .int (iI (h)))] := hl
  refine lv_aload_n hx hb dX2_temperature_0 rfl (lv_at hl 0 rfl) ?_
  refine zi_const hx hb dX2_temperature_1 ?_
  refine zput (C := RX2) (T := TX2) (N := 19) hx hb hts hinX2 tyX2 tyX2_ok nmX2 hown hE hS hw 0 mE_0 rfl 0 (by decide) (hts (.fieldLink RX2 66 "FormworkYardModel" "thrown" "I") (by decide +kernel)) rfl (ty := .int) (by decide +kernel) rfl rfl (Nat.le_of_ble_eq_true rfl) dX2_temperature_2 (fun H locs hw hS => ?_)
  have hw := hw.cong (mU_i 0 (by decide) (0))
  refine lv_iload_n hx hb dX2_temperature_5 rfl (lv_at hl 1 rfl) ?_
  refine zcalli (va_runS (As := [.int (iI (h))]) (rest := []) ⟨hx, hb, hml, hown, hts⟩ (c_X2_isHour l D cy A ad _ (h) (by first | decide | (constructor <;> omega))) (va_cwS 1 hts gX2_temperature_X2_isHour rfl rfl rfl (by decide +kernel) ⟨(Nat.le_of_ble_eq_true rfl), (Nat.le_of_ble_eq_true rfl)⟩) (zPS hE hS) rfl rfl hl.1 rfl (lv_room (Nat.le_of_ble_eq_true rfl)) dX2_temperature_6 ⟨(Nat.le_of_ble_eq_true rfl), (Nat.le_of_ble_eq_true rfl)⟩) hS (fun z_6 H1 locs hz_6 hq hz1 hk1 hS => ?_)
  obtain ⟨hqe, hv_6⟩ := hq
  replace hqe := hqe.symm
  subst hqe
  refine zf_eq (tgt := 21) hx hb dX2_temperature_9 (by decide) (by first | decide | (constructor <;> omega)) (fun c_9 => ?_) (fun c_9 => ?_)
  · refine lv_aload_n hx hb dX2_temperature_21 rfl (lv_at hl 0 rfl) ?_
    refine zi_const hx hb dX2_temperature_22 ?_
    refine zcalli (va_runV (As := [.int (iI (1))]) (rest := []) ⟨hx, hb, hml, hown, hts⟩ (c_X2_fails l D cy A ad (va_up mi 0 (0)) ma _ (1) hw (by first | decide | (constructor <;> omega))) (cwV 1 hts gX2_temperature_X2_fails rfl rfl rfl (by decide +kernel) ⟨(Nat.le_of_ble_eq_true rfl), (Nat.le_of_ble_eq_true rfl)⟩) (zPV hE hS hw (ci := 2) (k0 := 0) rfl mE_0) rfl rfl hl.1 rfl (lv_room (Nat.le_of_ble_eq_true rfl)) dX2_temperature_23 ⟨(Nat.le_of_ble_eq_true rfl), (Nat.le_of_ble_eq_true rfl)⟩) hS (fun z_23 H1 locs hz_23 hq hz1 hk1 hS => ?_)
    obtain ⟨hw, hv_23⟩ := hq
    subst hv_23
    rw [up_up] at hw
    refine ziret hx hb hr hlocks hS (Nat.le_of_ble_eq_true rfl) (Nat.le_of_ble_eq_true rfl) (by first | decide | (constructor <;> omega)) ?_ dX2_temperature_26
    refine ⟨_, hw, ?_, ?_⟩
    · (repeat' split) <;> omega
    · intro hc; first | rfl | omega
  · refine lv_aload_n hx hb dX2_temperature_12 rfl (lv_at hl 0 rfl) ?_
    refine zget (C := RX2) (T := TX2) (N := 19) hx hb hts hinX2 hown hE hw 0 mE_0 rfl 1 (by decide) (hts (.fieldLink RX2 7 "FormworkYardModel" "temperatures" "[I") (by decide +kernel)) rfl dX2_temperature_13 ?_
    refine lv_iload_n hx hb dX2_temperature_16 rfl (lv_at hl 1 rfl) ?_
    refine ziald hx hb hE hw 1 (mE_a 1 (by decide) rfl) (h).toNat (by omega) (by omega) (by omega) dX2_temperature_17 ?_
    refine zi_top (fun v_17 hv_17 => ?_)
    have hT := ht h.toNat (by omega)
    refine lv_goto (tgt := 26) hx hb dX2_temperature_18 (by decide) ?_
    refine ziret hx hb hr hlocks hS (Nat.le_of_ble_eq_true rfl) (Nat.le_of_ble_eq_true rfl) (by first | decide | (constructor <;> omega)) ?_ dX2_temperature_26
    refine ⟨_, hw, ?_, ?_⟩
    · (repeat' split) <;> omega
    · intro hc; first | rfl | omega

set_option maxHeartbeats 4000000 in
set_option maxRecDepth 100000 in
theorem c_X2_maturity (l : Launch) (D : va_G) (cy : Nat → ClassId) (A : Nat → Prop) (ad : Nat → Nat) (mi : Nat → Int) (ma : Nat → Nat → Int) (H0 : Heap) (a b : Int) (hw : zW D A ad (mE cy ad mi ma) H0) (h1 : zr a) (h2 : zr b) (ht : tOK (ma 1)) : Met l yX2_maturity wsX2_maturity ({ frames := 4, cells := 0, slots := 0, locals := 88 }) (zPc D cy A [.ref (ad 0), .int (iI (a)), .int (iI (b))] H0) (zQi (fun z H1 => ∃ c, zW D A ad (mE cy ad (va_up mi 0 c) ma) H1 ∧ c = (if (0 ≤ a ∧ a < 1000) ∧ (0 ≤ b ∧ b < 1000) then 0 else 1) ∧ (c = 0 → z = mat (ma 1) a b)) A) 0 0 A := by
  refine Met.ofW (cc := cX2_maturity) (maxL := 3) (ret := (some .int)) (by decide) rfl ?_
  intro pg en s mt args below meth c s₁ B hml hv
  obtain ⟨rfl, hH, hE⟩ := hv
  subst hH
  have hx := B.exec
  have hb := B.bytes
  have hr := B.returns
  have hts := atoms_spec (ws := wsX2_maturity) B.pre
  have hown : s.vm.findClass RX2 = some mt.cls := findClass_of_methodNamed B.named
  have hlocks := B.notSynchronized
  have hinX2 : ∀ w ∈ u_ws RX2 TX2 19, w ∈ wsX2_maturity := by decide +kernel
  have hS : va_S A s.heap s.heap [] := va_S.rf
  have hl := lv_entry ([.ref (ad 0), .int (iI (a)), .int (iI (b))]) (n := 3) (Nat.le_of_ble_eq_true rfl)
  rw [lg_entry_eq]
  generalize (lg_sl ([.ref (ad 0), .int (iI (a)), .int (iI (b))]) ++ List.replicate (3 - (lg_sl ([.ref (ad 0), .int (iI (a)), .int (iI (b))])).length) Slot.unset).toArray = ls at hl ⊢
  have hl : lv_has ls 3 [(0, .ref (ad 0)), (1, .int (iI (a))), (2, .int (iI (b)))] := hl
  refine lv_aload_n hx hb dX2_maturity_0 rfl (lv_at hl 0 rfl) ?_
  refine lv_iload_n hx hb dX2_maturity_1 rfl (lv_at hl 1 rfl) ?_
  refine zcalli (va_runS (As := [.int (iI (a))]) (rest := [.ref (ad 0)]) ⟨hx, hb, hml, hown, hts⟩ (c_X2_isHour l D cy A ad _ (a) (by first | decide | (constructor <;> omega))) (va_cwS 1 hts gX2_maturity_X2_isHour rfl rfl rfl (by decide +kernel) ⟨(Nat.le_of_ble_eq_true rfl), (Nat.le_of_ble_eq_true rfl)⟩) (zPS hE hS) rfl rfl hl.1 rfl (lv_room (Nat.le_of_ble_eq_true rfl)) dX2_maturity_2 ⟨(Nat.le_of_ble_eq_true rfl), (Nat.le_of_ble_eq_true rfl)⟩) hS (fun z_2 H1 locs hz_2 hq hz1 hk1 hS => ?_)
  obtain ⟨hqe, hv_2⟩ := hq
  replace hqe := hqe.symm
  subst hqe
  refine zf_eq (tgt := 19) hx hb dX2_maturity_5 (by decide) (by first | decide | (constructor <;> omega)) (fun c_5 => ?_) (fun c_5 => ?_)
  · refine zi_const hx hb dX2_maturity_19 ?_
    refine zput (C := RX2) (T := TX2) (N := 19) hx hb hts hinX2 tyX2 tyX2_ok nmX2 hown hE hS hw 0 mE_0 rfl 0 (by decide) (hts (.fieldLink RX2 66 "FormworkYardModel" "thrown" "I") (by decide +kernel)) rfl (ty := .int) (by decide +kernel) rfl rfl (Nat.le_of_ble_eq_true rfl) dX2_maturity_20 (fun H locs hw hS => ?_)
    have hw := hw.cong (mU_i 0 (by decide) (1))
    refine lv_aload_n hx hb dX2_maturity_23 rfl (lv_at hl 0 rfl) ?_
    refine zget (C := RX2) (T := TX2) (N := 19) hx hb hts hinX2 hown hE hw 0 mE_0 rfl 0 (by decide) (hts (.fieldLink RX2 66 "FormworkYardModel" "thrown" "I") (by decide +kernel)) rfl dX2_maturity_24 ?_
    refine zi_top (fun v_24 hv_24 => ?_)
    simp [va_up] at hv_24
    subst hv_24
    refine zf_le (tgt := 34) hx hb dX2_maturity_27 (by decide) (by first | decide | (constructor <;> omega)) (fun c_27 => ?_) (fun c_27 => ?_)
    · exfalso; omega
    · refine zi_const hx hb dX2_maturity_30 ?_
      refine lv_goto (tgt := 40) hx hb dX2_maturity_31 (by decide) ?_
      refine ziret hx hb hr hlocks hS (Nat.le_of_ble_eq_true rfl) (Nat.le_of_ble_eq_true rfl) (by first | decide | (constructor <;> omega)) ?_ dX2_maturity_40
      refine ⟨_, hw, ?_, ?_⟩
      · (repeat' split) <;> omega
      · intro hc; first | rfl | omega
  · refine lv_iload_n hx hb dX2_maturity_8 rfl (lv_at hl 2 rfl) ?_
    refine zcalli (va_runS (As := [.int (iI (b))]) (rest := [.ref (ad 0)]) ⟨hx, hb, hml, hown, hts⟩ (c_X2_isHour l D cy A ad _ (b) (by first | decide | (constructor <;> omega))) (va_cwS 1 hts gX2_maturity_X2_isHour rfl rfl rfl (by decide +kernel) ⟨(Nat.le_of_ble_eq_true rfl), (Nat.le_of_ble_eq_true rfl)⟩) (zPS hE hS) rfl rfl hl.1 rfl (lv_room (Nat.le_of_ble_eq_true rfl)) dX2_maturity_9 ⟨(Nat.le_of_ble_eq_true rfl), (Nat.le_of_ble_eq_true rfl)⟩) hS (fun z_9 H1 locs hz_9 hq hz1 hk1 hS => ?_)
    obtain ⟨hqe, hv_9⟩ := hq
    replace hqe := hqe.symm
    subst hqe
    refine zf_eq (tgt := 19) hx hb dX2_maturity_12 (by decide) (by first | decide | (constructor <;> omega)) (fun c_12 => ?_) (fun c_12 => ?_)
    · refine zi_const hx hb dX2_maturity_19 ?_
      refine zput (C := RX2) (T := TX2) (N := 19) hx hb hts hinX2 tyX2 tyX2_ok nmX2 hown hE hS hw 0 mE_0 rfl 0 (by decide) (hts (.fieldLink RX2 66 "FormworkYardModel" "thrown" "I") (by decide +kernel)) rfl (ty := .int) (by decide +kernel) rfl rfl (Nat.le_of_ble_eq_true rfl) dX2_maturity_20 (fun H locs hw hS => ?_)
      have hw := hw.cong (mU_i 0 (by decide) (1))
      refine lv_aload_n hx hb dX2_maturity_23 rfl (lv_at hl 0 rfl) ?_
      refine zget (C := RX2) (T := TX2) (N := 19) hx hb hts hinX2 hown hE hw 0 mE_0 rfl 0 (by decide) (hts (.fieldLink RX2 66 "FormworkYardModel" "thrown" "I") (by decide +kernel)) rfl dX2_maturity_24 ?_
      refine zi_top (fun v_24 hv_24 => ?_)
      simp [va_up] at hv_24
      subst hv_24
      refine zf_le (tgt := 34) hx hb dX2_maturity_27 (by decide) (by first | decide | (constructor <;> omega)) (fun c_27 => ?_) (fun c_27 => ?_)
      · exfalso; omega
      · refine zi_const hx hb dX2_maturity_30 ?_
        refine lv_goto (tgt := 40) hx hb dX2_maturity_31 (by decide) ?_
        refine ziret hx hb hr hlocks hS (Nat.le_of_ble_eq_true rfl) (Nat.le_of_ble_eq_true rfl) (by first | decide | (constructor <;> omega)) ?_ dX2_maturity_40
        refine ⟨_, hw, ?_, ?_⟩
        · (repeat' split) <;> omega
        · intro hc; first | rfl | omega
    · refine zi_const hx hb dX2_maturity_15 ?_
      refine lv_goto (tgt := 20) hx hb dX2_maturity_16 (by decide) ?_
      refine zput (C := RX2) (T := TX2) (N := 19) hx hb hts hinX2 tyX2 tyX2_ok nmX2 hown hE hS hw 0 mE_0 rfl 0 (by decide) (hts (.fieldLink RX2 66 "FormworkYardModel" "thrown" "I") (by decide +kernel)) rfl (ty := .int) (by decide +kernel) rfl rfl (Nat.le_of_ble_eq_true rfl) dX2_maturity_20 (fun H locs hw hS => ?_)
      have hw := hw.cong (mU_i 0 (by decide) (0))
      refine lv_aload_n hx hb dX2_maturity_23 rfl (lv_at hl 0 rfl) ?_
      refine zget (C := RX2) (T := TX2) (N := 19) hx hb hts hinX2 hown hE hw 0 mE_0 rfl 0 (by decide) (hts (.fieldLink RX2 66 "FormworkYardModel" "thrown" "I") (by decide +kernel)) rfl dX2_maturity_24 ?_
      refine zi_top (fun v_24 hv_24 => ?_)
      simp [va_up] at hv_24
      subst hv_24
      refine zf_le (tgt := 34) hx hb dX2_maturity_27 (by decide) (by first | decide | (constructor <;> omega)) (fun c_27 => ?_) (fun c_27 => ?_)
      · refine lv_aload_n hx hb dX2_maturity_34 rfl (lv_at hl 0 rfl) ?_
        refine lv_iload_n hx hb dX2_maturity_35 rfl (lv_at hl 1 rfl) ?_
        refine lv_iload_n hx hb dX2_maturity_36 rfl (lv_at hl 2 rfl) ?_
        refine zcalli (va_runV (As := [.int (iI (a)), .int (iI (b))]) (rest := []) ⟨hx, hb, hml, hown, hts⟩ (c_X2_sum l D cy A ad (va_up mi 0 (0)) ma _ (a) (b) hw (by constructor <;> omega) (by constructor <;> omega) ht) (cwV 2 hts gX2_maturity_X2_sum rfl rfl rfl (by decide +kernel) ⟨(Nat.le_of_ble_eq_true rfl), (Nat.le_of_ble_eq_true rfl)⟩) (zPV hE hS hw (ci := 2) (k0 := 0) rfl mE_0) rfl rfl hl.1 rfl (lv_room (Nat.le_of_ble_eq_true rfl)) dX2_maturity_37 ⟨(Nat.le_of_ble_eq_true rfl), (Nat.le_of_ble_eq_true rfl)⟩) hS (fun z_37 H1 locs hz_37 hq hz1 hk1 hS => ?_)
        obtain ⟨hqe, hv_37⟩ := hq
        replace hqe := hqe.symm
        subst hqe
        refine ziret hx hb hr hlocks hS (Nat.le_of_ble_eq_true rfl) (Nat.le_of_ble_eq_true rfl) (by first | decide | (constructor <;> omega)) ?_ dX2_maturity_40
        refine ⟨_, hw, ?_, ?_⟩
        · (repeat' split) <;> omega
        · intro hc; first | rfl | omega
      · exfalso; omega

set_option maxHeartbeats 4000000 in
set_option maxRecDepth 100000 in
theorem c_X2_strength (l : Launch) (D : va_G) (cy : Nat → ClassId) (A : Nat → Prop) (ad : Nat → Nat) (mi : Nat → Int) (ma : Nat → Nat → Int) (H0 : Heap) (v : Int) (hw : zW D A ad (mE cy ad mi ma) H0) (h1 : zr v) : Met l yX2_strength wsX2_strength ({ frames := 2, cells := 0, slots := 0, locals := 43 }) (zPc D cy A [.ref (ad 0), .int (iI (v))] H0) (zQi (fun z H1 => ∃ c, zW D A ad (mE cy ad (va_up mi 0 c) ma) H1 ∧ c = (if 0 ≤ v ∧ v ≤ 1000000 then 0 else 1) ∧ (c = 0 → z = strg v)) A) 0 0 A := by
  refine Met.ofW (cc := cX2_strength) (maxL := 2) (ret := (some .int)) (by decide) rfl ?_
  intro pg en s mt args below meth c s₁ B hml hv
  obtain ⟨rfl, hH, hE⟩ := hv
  subst hH
  have hx := B.exec
  have hb := B.bytes
  have hr := B.returns
  have hts := atoms_spec (ws := wsX2_strength) B.pre
  have hown : s.vm.findClass RX2 = some mt.cls := findClass_of_methodNamed B.named
  have hlocks := B.notSynchronized
  have hinX2 : ∀ w ∈ u_ws RX2 TX2 19, w ∈ wsX2_strength := by decide +kernel
  have hS : va_S A s.heap s.heap [] := va_S.rf
  have hl := lv_entry ([.ref (ad 0), .int (iI (v))]) (n := 2) (Nat.le_of_ble_eq_true rfl)
  rw [lg_entry_eq]
  generalize (lg_sl ([.ref (ad 0), .int (iI (v))]) ++ List.replicate (2 - (lg_sl ([.ref (ad 0), .int (iI (v))])).length) Slot.unset).toArray = ls at hl ⊢
  have hl : lv_has ls 2 [(0, .ref (ad 0)), (1, .int (iI (v)))] := hl
  refine lv_aload_n hx hb dX2_strength_0 rfl (lv_at hl 0 rfl) ?_
  refine zi_const hx hb dX2_strength_1 ?_
  refine zput (C := RX2) (T := TX2) (N := 19) hx hb hts hinX2 tyX2 tyX2_ok nmX2 hown hE hS hw 0 mE_0 rfl 0 (by decide) (hts (.fieldLink RX2 66 "FormworkYardModel" "thrown" "I") (by decide +kernel)) rfl (ty := .int) (by decide +kernel) rfl rfl (Nat.le_of_ble_eq_true rfl) dX2_strength_2 (fun H locs hw hS => ?_)
  have hw := hw.cong (mU_i 0 (by decide) (0))
  refine lv_iload_n hx hb dX2_strength_5 rfl (lv_at hl 1 rfl) ?_
  refine zi_const hx hb dX2_strength_6 ?_
  refine lv_ldc (v := iI 1000000) hx hb hown (hts (.constant RX2 113 (iI 1000000)) (by decide +kernel)) dX2_strength_7 ?_
  refine zcalli (va_runS (As := [.int (iI (v)), .int (iI (0)), .int (iI (1000000))]) (rest := []) ⟨hx, hb, hml, hown, hts⟩ (c_X2_in l D cy A ad _ (v) (0) (1000000) (by first | decide | (constructor <;> omega)) (by first | decide | (constructor <;> omega)) (by first | decide | (constructor <;> omega))) (va_cwS 3 hts gX2_strength_X2_in rfl rfl rfl (by decide +kernel) ⟨(Nat.le_of_ble_eq_true rfl), (Nat.le_of_ble_eq_true rfl)⟩) (zPS hE hS) rfl rfl hl.1 rfl (lv_room (Nat.le_of_ble_eq_true rfl)) dX2_strength_9 ⟨(Nat.le_of_ble_eq_true rfl), (Nat.le_of_ble_eq_true rfl)⟩) hS (fun z_9 H1 locs hz_9 hq hz1 hk1 hS => ?_)
  obtain ⟨hqe, hv_9⟩ := hq
  replace hqe := hqe.symm
  subst hqe
  refine zf_eq (tgt := 22) hx hb dX2_strength_12 (by decide) (by first | decide | (constructor <;> omega)) (fun c_12 => ?_) (fun c_12 => ?_)
  · refine lv_aload_n hx hb dX2_strength_22 rfl (lv_at hl 0 rfl) ?_
    refine zi_const hx hb dX2_strength_23 ?_
    refine zcalli (va_runV (As := [.int (iI (1))]) (rest := []) ⟨hx, hb, hml, hown, hts⟩ (c_X2_fails l D cy A ad (va_up mi 0 (0)) ma _ (1) hw (by first | decide | (constructor <;> omega))) (cwV 1 hts gX2_strength_X2_fails rfl rfl rfl (by decide +kernel) ⟨(Nat.le_of_ble_eq_true rfl), (Nat.le_of_ble_eq_true rfl)⟩) (zPV hE hS hw (ci := 2) (k0 := 0) rfl mE_0) rfl rfl hl.1 rfl (lv_room (Nat.le_of_ble_eq_true rfl)) dX2_strength_24 ⟨(Nat.le_of_ble_eq_true rfl), (Nat.le_of_ble_eq_true rfl)⟩) hS (fun z_24 H1 locs hz_24 hq hz1 hk1 hS => ?_)
    obtain ⟨hw, hv_24⟩ := hq
    subst hv_24
    rw [up_up] at hw
    refine ziret hx hb hr hlocks hS (Nat.le_of_ble_eq_true rfl) (Nat.le_of_ble_eq_true rfl) (by first | decide | (constructor <;> omega)) ?_ dX2_strength_27
    refine ⟨_, hw, ?_, ?_⟩
    · (repeat' split) <;> omega
    · intro hc; first | rfl | omega
  · refine lv_iload_n hx hb dX2_strength_15 rfl (lv_at hl 1 rfl) ?_
    refine zcalli (va_runS (As := [.int (iI (v))]) (rest := []) ⟨hx, hb, hml, hown, hts⟩ (c_X2_strong l D cy A ad _ (v) (by omega)) (va_cwS 1 hts gX2_strength_X2_strong rfl rfl rfl (by decide +kernel) ⟨(Nat.le_of_ble_eq_true rfl), (Nat.le_of_ble_eq_true rfl)⟩) (zPS hE hS) rfl rfl hl.1 rfl (lv_room (Nat.le_of_ble_eq_true rfl)) dX2_strength_16 ⟨(Nat.le_of_ble_eq_true rfl), (Nat.le_of_ble_eq_true rfl)⟩) hS (fun z_16 H1 locs hz_16 hq hz1 hk1 hS => ?_)
    obtain ⟨hqe, hv_16⟩ := hq
    replace hqe := hqe.symm
    subst hqe
    refine lv_goto (tgt := 27) hx hb dX2_strength_19 (by decide) ?_
    refine ziret hx hb hr hlocks hS (Nat.le_of_ble_eq_true rfl) (Nat.le_of_ble_eq_true rfl) (by first | decide | (constructor <;> omega)) ?_ dX2_strength_27
    refine ⟨_, hw, ?_, ?_⟩
    · (repeat' split) <;> omega
    · intro hc; first | rfl | omega

set_option maxHeartbeats 4000000 in
set_option maxRecDepth 100000 in
theorem c_X2_setPanels (l : Launch) (D : va_G) (cy : Nat → ClassId) (A : Nat → Prop) (ad : Nat → Nat) (mi : Nat → Int) (ma : Nat → Nat → Int) (H0 : Heap) (v : Int) (hw : zW D A ad (mE cy ad mi ma) H0) (h1 : zr v) (hg : gOK mi) : Met l yX2_setPanels wsX2_setPanels ({ frames := 1, cells := 0, slots := 0, locals := 22 }) (zPc D cy A [.ref (ad 0), .int (iI (v))] H0) (zQi (fun z H1 => ∃ c mi2, zW D A ad (mE cy ad mi2 ma) H1 ∧ c = (if 0 ≤ v ∧ v ≤ 60 then 0 else 1) ∧ ((c ≠ 0 ∧ mi2 = va_up mi 0 c) ∨ (c = 0 ∧ mi2 = va_up (va_up mi 0 0) 2 v ∧ z = mi 2))) A) 0 0 A := by
  refine Met.ofW (cc := cX2_setPanels) (maxL := 3) (ret := (some .int)) (by decide) rfl ?_
  intro pg en s mt args below meth c s₁ B hml hv
  obtain ⟨rfl, hH, hE⟩ := hv
  subst hH
  have hx := B.exec
  have hb := B.bytes
  have hr := B.returns
  have hts := atoms_spec (ws := wsX2_setPanels) B.pre
  have hown : s.vm.findClass RX2 = some mt.cls := findClass_of_methodNamed B.named
  have hlocks := B.notSynchronized
  have hinX2 : ∀ w ∈ u_ws RX2 TX2 19, w ∈ wsX2_setPanels := by decide +kernel
  have hS : va_S A s.heap s.heap [] := va_S.rf
  have hl := lv_entry ([.ref (ad 0), .int (iI (v))]) (n := 3) (Nat.le_of_ble_eq_true rfl)
  rw [lg_entry_eq]
  generalize (lg_sl ([.ref (ad 0), .int (iI (v))]) ++ List.replicate (3 - (lg_sl ([.ref (ad 0), .int (iI (v))])).length) Slot.unset).toArray = ls at hl ⊢
  have hl : lv_has ls 3 [(0, .ref (ad 0)), (1, .int (iI (v)))] := hl
  obtain ⟨g1, g2, g3, g4, g5⟩ := id hg
  refine lv_aload_n hx hb dX2_setPanels_0 rfl (lv_at hl 0 rfl) ?_
  refine lv_iload_n hx hb dX2_setPanels_1 rfl (lv_at hl 1 rfl) ?_
  refine zi_const hx hb dX2_setPanels_2 ?_
  refine zi_bipush hx hb dX2_setPanels_3 (by decide) ?_
  refine zcalli (va_runS (As := [.int (iI (v)), .int (iI (0)), .int (iI (60))]) (rest := [.ref (ad 0)]) ⟨hx, hb, hml, hown, hts⟩ (c_X2_in l D cy A ad _ (v) (0) (60) (by first | decide | (constructor <;> omega)) (by first | decide | (constructor <;> omega)) (by first | decide | (constructor <;> omega))) (va_cwS 3 hts gX2_setPanels_X2_in rfl rfl rfl (by decide +kernel) ⟨(Nat.le_of_ble_eq_true rfl), (Nat.le_of_ble_eq_true rfl)⟩) (zPS hE hS) rfl rfl hl.1 rfl (lv_room (Nat.le_of_ble_eq_true rfl)) dX2_setPanels_5 ⟨(Nat.le_of_ble_eq_true rfl), (Nat.le_of_ble_eq_true rfl)⟩) hS (fun z_5 H1 locs hz_5 hq hz1 hk1 hS => ?_)
  obtain ⟨hqe, hv_5⟩ := hq
  replace hqe := hqe.symm
  subst hqe
  refine zf_eq (tgt := 15) hx hb dX2_setPanels_8 (by decide) (by first | decide | (constructor <;> omega)) (fun c_8 => ?_) (fun c_8 => ?_)
  · refine zi_const hx hb dX2_setPanels_15 ?_
    refine zput (C := RX2) (T := TX2) (N := 19) hx hb hts hinX2 tyX2 tyX2_ok nmX2 hown hE hS hw 0 mE_0 rfl 0 (by decide) (hts (.fieldLink RX2 66 "FormworkYardModel" "thrown" "I") (by decide +kernel)) rfl (ty := .int) (by decide +kernel) rfl rfl (Nat.le_of_ble_eq_true rfl) dX2_setPanels_16 (fun H locs hw hS => ?_)
    have hw := hw.cong (mU_i 0 (by decide) (1))
    refine lv_aload_n hx hb dX2_setPanels_19 rfl (lv_at hl 0 rfl) ?_
    refine zget (C := RX2) (T := TX2) (N := 19) hx hb hts hinX2 hown hE hw 0 mE_0 rfl 0 (by decide) (hts (.fieldLink RX2 66 "FormworkYardModel" "thrown" "I") (by decide +kernel)) rfl dX2_setPanels_20 ?_
    refine zi_top (fun v_20 hv_20 => ?_)
    simp [va_up] at hv_20
    subst hv_20
    refine zf_le (tgt := 28) hx hb dX2_setPanels_23 (by decide) (by first | decide | (constructor <;> omega)) (fun c_23 => ?_) (fun c_23 => ?_)
    · exfalso; omega
    · refine zi_const hx hb dX2_setPanels_26 ?_
      refine ziret hx hb hr hlocks hS (Nat.le_of_ble_eq_true rfl) (Nat.le_of_ble_eq_true rfl) (by first | decide | (constructor <;> omega)) ?_ dX2_setPanels_27
      refine ⟨1, _, hw, by (repeat' split) <;> omega, ?_⟩
      exact Or.inl ⟨by decide, rfl⟩
  · refine zi_const hx hb dX2_setPanels_11 ?_
    refine lv_goto (tgt := 16) hx hb dX2_setPanels_12 (by decide) ?_
    refine zput (C := RX2) (T := TX2) (N := 19) hx hb hts hinX2 tyX2 tyX2_ok nmX2 hown hE hS hw 0 mE_0 rfl 0 (by decide) (hts (.fieldLink RX2 66 "FormworkYardModel" "thrown" "I") (by decide +kernel)) rfl (ty := .int) (by decide +kernel) rfl rfl (Nat.le_of_ble_eq_true rfl) dX2_setPanels_16 (fun H locs hw hS => ?_)
    have hw := hw.cong (mU_i 0 (by decide) (0))
    refine lv_aload_n hx hb dX2_setPanels_19 rfl (lv_at hl 0 rfl) ?_
    refine zget (C := RX2) (T := TX2) (N := 19) hx hb hts hinX2 hown hE hw 0 mE_0 rfl 0 (by decide) (hts (.fieldLink RX2 66 "FormworkYardModel" "thrown" "I") (by decide +kernel)) rfl dX2_setPanels_20 ?_
    refine zi_top (fun v_20 hv_20 => ?_)
    simp [va_up] at hv_20
    subst hv_20
    refine zf_le (tgt := 28) hx hb dX2_setPanels_23 (by decide) (by first | decide | (constructor <;> omega)) (fun c_23 => ?_) (fun c_23 => ?_)
    · refine lv_aload_n hx hb dX2_setPanels_28 rfl (lv_at hl 0 rfl) ?_
      refine zget (C := RX2) (T := TX2) (N := 19) hx hb hts hinX2 hown hE hw 0 mE_0 rfl 2 (by decide) (hts (.fieldLink RX2 13 "FormworkYardModel" "panels" "I") (by decide +kernel)) rfl dX2_setPanels_29 ?_
      refine zi_top (fun v_29 hv_29 => ?_)
      simp [va_up] at hv_29
      refine lv_istore_n (lv' := [(2, .int (iI (v_29))), (0, .ref (ad 0)), (1, .int (iI (v)))]) hx hb dX2_setPanels_32 rfl hl (by decide) rfl (fun ls hl => ?_)
      refine lv_aload_n hx hb dX2_setPanels_33 rfl (lv_at hl 1 rfl) ?_
      refine lv_iload_n hx hb dX2_setPanels_34 rfl (lv_at hl 2 rfl) ?_
      refine zput (C := RX2) (T := TX2) (N := 19) hx hb hts hinX2 tyX2 tyX2_ok nmX2 hown hE hS hw 0 mE_0 rfl 2 (by decide) (hts (.fieldLink RX2 13 "FormworkYardModel" "panels" "I") (by decide +kernel)) rfl (ty := .int) (by decide +kernel) rfl rfl (Nat.le_of_ble_eq_true rfl) dX2_setPanels_35 (fun H locs hw hS => ?_)
      have hw := hw.cong (mU_i 2 (by decide) (v))
      refine lv_iload_n hx hb dX2_setPanels_38 rfl (lv_at hl 0 rfl) ?_
      refine ziret hx hb hr hlocks hS (Nat.le_of_ble_eq_true rfl) (Nat.le_of_ble_eq_true rfl) (by first | decide | (constructor <;> omega)) ?_ dX2_setPanels_39
      refine ⟨0, _, hw, by (repeat' split) <;> omega, ?_⟩
      exact Or.inr ⟨rfl, rfl, by omega⟩
    · exfalso; omega

set_option maxHeartbeats 4000000 in
set_option maxRecDepth 100000 in
theorem c_X2_setRates (l : Launch) (D : va_G) (cy : Nat → ClassId) (A : Nat → Prop) (ad : Nat → Nat) (mi : Nat → Int) (ma : Nat → Nat → Int) (H0 : Heap) (v u : Int) (hw : zW D A ad (mE cy ad mi ma) H0) (h1 : zr v) (h2 : zr u) (hg : gOK mi) : Met l yX2_setRates wsX2_setRates ({ frames := 1, cells := 0, slots := 0, locals := 22 }) (zPc D cy A [.ref (ad 0), .int (iI (v)), .int (iI (u))] H0) (zQi (fun z H1 => ∃ c mi2, zW D A ad (mE cy ad mi2 ma) H1 ∧ c = (if (1 ≤ v ∧ v ≤ 50) ∧ (1 ≤ u ∧ u ≤ 50) then 0 else 1) ∧ ((c ≠ 0 ∧ mi2 = va_up mi 0 c) ∨ (c = 0 ∧ mi2 = va_up (va_up (va_up mi 0 0) 3 v) 4 u ∧ z = min v u))) A) 0 0 A := by
  refine Met.ofW (cc := cX2_setRates) (maxL := 3) (ret := (some .int)) (by decide) rfl ?_
  intro pg en s mt args below meth c s₁ B hml hv
  obtain ⟨rfl, hH, hE⟩ := hv
  subst hH
  have hx := B.exec
  have hb := B.bytes
  have hr := B.returns
  have hts := atoms_spec (ws := wsX2_setRates) B.pre
  have hown : s.vm.findClass RX2 = some mt.cls := findClass_of_methodNamed B.named
  have hlocks := B.notSynchronized
  have hinX2 : ∀ w ∈ u_ws RX2 TX2 19, w ∈ wsX2_setRates := by decide +kernel
  have hS : va_S A s.heap s.heap [] := va_S.rf
  have hl := lv_entry ([.ref (ad 0), .int (iI (v)), .int (iI (u))]) (n := 3) (Nat.le_of_ble_eq_true rfl)
  rw [lg_entry_eq]
  generalize (lg_sl ([.ref (ad 0), .int (iI (v)), .int (iI (u))]) ++ List.replicate (3 - (lg_sl ([.ref (ad 0), .int (iI (v)), .int (iI (u))])).length) Slot.unset).toArray = ls at hl ⊢
  have hl : lv_has ls 3 [(0, .ref (ad 0)), (1, .int (iI (v))), (2, .int (iI (u)))] := hl
  obtain ⟨g1, g2, g3, g4, g5⟩ := id hg
  refine lv_aload_n hx hb dX2_setRates_0 rfl (lv_at hl 0 rfl) ?_
  refine lv_iload_n hx hb dX2_setRates_1 rfl (lv_at hl 1 rfl) ?_
  refine zi_const hx hb dX2_setRates_2 ?_
  refine zi_bipush hx hb dX2_setRates_3 (by decide) ?_
  refine zcalli (va_runS (As := [.int (iI (v)), .int (iI (1)), .int (iI (50))]) (rest := [.ref (ad 0)]) ⟨hx, hb, hml, hown, hts⟩ (c_X2_in l D cy A ad _ (v) (1) (50) (by first | decide | (constructor <;> omega)) (by first | decide | (constructor <;> omega)) (by first | decide | (constructor <;> omega))) (va_cwS 3 hts gX2_setRates_X2_in rfl rfl rfl (by decide +kernel) ⟨(Nat.le_of_ble_eq_true rfl), (Nat.le_of_ble_eq_true rfl)⟩) (zPS hE hS) rfl rfl hl.1 rfl (lv_room (Nat.le_of_ble_eq_true rfl)) dX2_setRates_5 ⟨(Nat.le_of_ble_eq_true rfl), (Nat.le_of_ble_eq_true rfl)⟩) hS (fun z_5 H1 locs hz_5 hq hz1 hk1 hS => ?_)
  obtain ⟨hqe, hv_5⟩ := hq
  replace hqe := hqe.symm
  subst hqe
  refine zf_eq (tgt := 25) hx hb dX2_setRates_8 (by decide) (by first | decide | (constructor <;> omega)) (fun c_8 => ?_) (fun c_8 => ?_)
  · refine zi_const hx hb dX2_setRates_25 ?_
    refine zput (C := RX2) (T := TX2) (N := 19) hx hb hts hinX2 tyX2 tyX2_ok nmX2 hown hE hS hw 0 mE_0 rfl 0 (by decide) (hts (.fieldLink RX2 66 "FormworkYardModel" "thrown" "I") (by decide +kernel)) rfl (ty := .int) (by decide +kernel) rfl rfl (Nat.le_of_ble_eq_true rfl) dX2_setRates_26 (fun H locs hw hS => ?_)
    have hw := hw.cong (mU_i 0 (by decide) (1))
    refine lv_aload_n hx hb dX2_setRates_29 rfl (lv_at hl 0 rfl) ?_
    refine zget (C := RX2) (T := TX2) (N := 19) hx hb hts hinX2 hown hE hw 0 mE_0 rfl 0 (by decide) (hts (.fieldLink RX2 66 "FormworkYardModel" "thrown" "I") (by decide +kernel)) rfl dX2_setRates_30 ?_
    refine zi_top (fun v_30 hv_30 => ?_)
    simp [va_up] at hv_30
    subst hv_30
    refine zf_le (tgt := 38) hx hb dX2_setRates_33 (by decide) (by first | decide | (constructor <;> omega)) (fun c_33 => ?_) (fun c_33 => ?_)
    · exfalso; omega
    · refine zi_const hx hb dX2_setRates_36 ?_
      refine ziret hx hb hr hlocks hS (Nat.le_of_ble_eq_true rfl) (Nat.le_of_ble_eq_true rfl) (by first | decide | (constructor <;> omega)) ?_ dX2_setRates_37
      refine ⟨1, _, hw, by (repeat' split) <;> omega, ?_⟩
      exact Or.inl ⟨by decide, rfl⟩
  · refine lv_iload_n hx hb dX2_setRates_11 rfl (lv_at hl 2 rfl) ?_
    refine zi_const hx hb dX2_setRates_12 ?_
    refine zi_bipush hx hb dX2_setRates_13 (by decide) ?_
    refine zcalli (va_runS (As := [.int (iI (u)), .int (iI (1)), .int (iI (50))]) (rest := [.ref (ad 0)]) ⟨hx, hb, hml, hown, hts⟩ (c_X2_in l D cy A ad _ (u) (1) (50) (by first | decide | (constructor <;> omega)) (by first | decide | (constructor <;> omega)) (by first | decide | (constructor <;> omega))) (va_cwS 3 hts gX2_setRates_X2_in rfl rfl rfl (by decide +kernel) ⟨(Nat.le_of_ble_eq_true rfl), (Nat.le_of_ble_eq_true rfl)⟩) (zPS hE hS) rfl rfl hl.1 rfl (lv_room (Nat.le_of_ble_eq_true rfl)) dX2_setRates_15 ⟨(Nat.le_of_ble_eq_true rfl), (Nat.le_of_ble_eq_true rfl)⟩) hS (fun z_15 H1 locs hz_15 hq hz1 hk1 hS => ?_)
    obtain ⟨hqe, hv_15⟩ := hq
    replace hqe := hqe.symm
    subst hqe
    refine zf_eq (tgt := 25) hx hb dX2_setRates_18 (by decide) (by first | decide | (constructor <;> omega)) (fun c_18 => ?_) (fun c_18 => ?_)
    · refine zi_const hx hb dX2_setRates_25 ?_
      refine zput (C := RX2) (T := TX2) (N := 19) hx hb hts hinX2 tyX2 tyX2_ok nmX2 hown hE hS hw 0 mE_0 rfl 0 (by decide) (hts (.fieldLink RX2 66 "FormworkYardModel" "thrown" "I") (by decide +kernel)) rfl (ty := .int) (by decide +kernel) rfl rfl (Nat.le_of_ble_eq_true rfl) dX2_setRates_26 (fun H locs hw hS => ?_)
      have hw := hw.cong (mU_i 0 (by decide) (1))
      refine lv_aload_n hx hb dX2_setRates_29 rfl (lv_at hl 0 rfl) ?_
      refine zget (C := RX2) (T := TX2) (N := 19) hx hb hts hinX2 hown hE hw 0 mE_0 rfl 0 (by decide) (hts (.fieldLink RX2 66 "FormworkYardModel" "thrown" "I") (by decide +kernel)) rfl dX2_setRates_30 ?_
      refine zi_top (fun v_30 hv_30 => ?_)
      simp [va_up] at hv_30
      subst hv_30
      refine zf_le (tgt := 38) hx hb dX2_setRates_33 (by decide) (by first | decide | (constructor <;> omega)) (fun c_33 => ?_) (fun c_33 => ?_)
      · exfalso; omega
      · refine zi_const hx hb dX2_setRates_36 ?_
        refine ziret hx hb hr hlocks hS (Nat.le_of_ble_eq_true rfl) (Nat.le_of_ble_eq_true rfl) (by first | decide | (constructor <;> omega)) ?_ dX2_setRates_37
        refine ⟨1, _, hw, by (repeat' split) <;> omega, ?_⟩
        exact Or.inl ⟨by decide, rfl⟩
    · refine zi_const hx hb dX2_setRates_21 ?_
      refine lv_goto (tgt := 26) hx hb dX2_setRates_22 (by decide) ?_
      refine zput (C := RX2) (T := TX2) (N := 19) hx hb hts hinX2 tyX2 tyX2_ok nmX2 hown hE hS hw 0 mE_0 rfl 0 (by decide) (hts (.fieldLink RX2 66 "FormworkYardModel" "thrown" "I") (by decide +kernel)) rfl (ty := .int) (by decide +kernel) rfl rfl (Nat.le_of_ble_eq_true rfl) dX2_setRates_26 (fun H locs hw hS => ?_)
      have hw := hw.cong (mU_i 0 (by decide) (0))
      refine lv_aload_n hx hb dX2_setRates_29 rfl (lv_at hl 0 rfl) ?_
      refine zget (C := RX2) (T := TX2) (N := 19) hx hb hts hinX2 hown hE hw 0 mE_0 rfl 0 (by decide) (hts (.fieldLink RX2 66 "FormworkYardModel" "thrown" "I") (by decide +kernel)) rfl dX2_setRates_30 ?_
      refine zi_top (fun v_30 hv_30 => ?_)
      simp [va_up] at hv_30
      subst hv_30
      refine zf_le (tgt := 38) hx hb dX2_setRates_33 (by decide) (by first | decide | (constructor <;> omega)) (fun c_33 => ?_) (fun c_33 => ?_)
      · refine lv_aload_n hx hb dX2_setRates_38 rfl (lv_at hl 0 rfl) ?_
        refine lv_iload_n hx hb dX2_setRates_39 rfl (lv_at hl 1 rfl) ?_
        refine zput (C := RX2) (T := TX2) (N := 19) hx hb hts hinX2 tyX2 tyX2_ok nmX2 hown hE hS hw 0 mE_0 rfl 3 (by decide) (hts (.fieldLink RX2 17 "FormworkYardModel" "trucks" "I") (by decide +kernel)) rfl (ty := .int) (by decide +kernel) rfl rfl (Nat.le_of_ble_eq_true rfl) dX2_setRates_40 (fun H locs hw hS => ?_)
        have hw := hw.cong (mU_i 3 (by decide) (v))
        refine lv_aload_n hx hb dX2_setRates_43 rfl (lv_at hl 0 rfl) ?_
        refine lv_iload_n hx hb dX2_setRates_44 rfl (lv_at hl 2 rfl) ?_
        refine zput (C := RX2) (T := TX2) (N := 19) hx hb hts hinX2 tyX2 tyX2_ok nmX2 hown hE hS hw 0 mE_0 rfl 4 (by decide) (hts (.fieldLink RX2 20 "FormworkYardModel" "pump" "I") (by decide +kernel)) rfl (ty := .int) (by decide +kernel) rfl rfl (Nat.le_of_ble_eq_true rfl) dX2_setRates_45 (fun H locs hw hS => ?_)
        have hw := hw.cong (mU_i 4 (by decide) (u))
        refine lv_aload_n hx hb dX2_setRates_48 rfl (lv_at hl 0 rfl) ?_
        have hg2 : gOK (va_up (va_up (va_up mi 0 0) 3 v) 4 u) := by simp [gOK, va_up]; omega
        refine zcalli (va_runV (As := []) (rest := []) ⟨hx, hb, hml, hown, hts⟩ (c_X2_rate l D cy A ad (va_up (va_up (va_up mi 0 (0)) 3 (v)) 4 (u)) ma _ hw hg2) (cwV 0 hts gX2_setRates_X2_rate rfl rfl rfl (by decide +kernel) ⟨(Nat.le_of_ble_eq_true rfl), (Nat.le_of_ble_eq_true rfl)⟩) (zPV hE hS hw (ci := 2) (k0 := 0) rfl mE_0) rfl rfl hl.1 rfl (lv_room (Nat.le_of_ble_eq_true rfl)) dX2_setRates_49 ⟨(Nat.le_of_ble_eq_true rfl), (Nat.le_of_ble_eq_true rfl)⟩) hS (fun z_49 H1 locs hz_49 hq hz1 hk1 hS => ?_)
        obtain ⟨hqe, hv_49⟩ := hq
        replace hqe := hqe.symm
        subst hqe
        refine ziret hx hb hr hlocks hS (Nat.le_of_ble_eq_true rfl) (Nat.le_of_ble_eq_true rfl) (by first | decide | (constructor <;> omega)) ?_ dX2_setRates_52
        refine ⟨0, _, hw, by (repeat' split) <;> omega, ?_⟩
        exact Or.inr ⟨rfl, rfl, by simpa [va_up] using hv_49⟩
      · exfalso; omega

set_option maxHeartbeats 4000000 in
set_option maxRecDepth 100000 in
theorem c_X2_setCrew (l : Launch) (D : va_G) (cy : Nat → ClassId) (A : Nat → Prop) (ad : Nat → Nat) (mi : Nat → Int) (ma : Nat → Nat → Int) (H0 : Heap) (v u : Int) (hw : zW D A ad (mE cy ad mi ma) H0) (h1 : zr v) (h2 : zr u) : Met l yX2_setCrew wsX2_setCrew ({ frames := 1, cells := 0, slots := 0, locals := 22 }) (zPc D cy A [.ref (ad 0), .int (iI (v)), .int (iI (u))] H0) (zQv (fun H1 => ∃ c mi2, zW D A ad (mE cy ad mi2 ma) H1 ∧ c = (if (0 ≤ v ∧ v ≤ 24) ∧ (0 ≤ u ∧ u ≤ 24) then 0 else 1) ∧ ((c ≠ 0 ∧ mi2 = va_up mi 0 c) ∨ (c = 0 ∧ mi2 = va_up (va_up (va_up mi 0 0) 5 v) 6 u))) A) 0 0 A := by
  refine Met.ofW (cc := cX2_setCrew) (maxL := 3) (ret := none) (by decide) rfl ?_
  intro pg en s mt args below meth c s₁ B hml hv
  obtain ⟨rfl, hH, hE⟩ := hv
  subst hH
  have hx := B.exec
  have hb := B.bytes
  have hr := B.returns
  have hts := atoms_spec (ws := wsX2_setCrew) B.pre
  have hown : s.vm.findClass RX2 = some mt.cls := findClass_of_methodNamed B.named
  have hlocks := B.notSynchronized
  have hinX2 : ∀ w ∈ u_ws RX2 TX2 19, w ∈ wsX2_setCrew := by decide +kernel
  have hS : va_S A s.heap s.heap [] := va_S.rf
  have hl := lv_entry ([.ref (ad 0), .int (iI (v)), .int (iI (u))]) (n := 3) (Nat.le_of_ble_eq_true rfl)
  rw [lg_entry_eq]
  generalize (lg_sl ([.ref (ad 0), .int (iI (v)), .int (iI (u))]) ++ List.replicate (3 - (lg_sl ([.ref (ad 0), .int (iI (v)), .int (iI (u))])).length) Slot.unset).toArray = ls at hl ⊢
  have hl : lv_has ls 3 [(0, .ref (ad 0)), (1, .int (iI (v))), (2, .int (iI (u)))] := hl
  refine lv_aload_n hx hb dX2_setCrew_0 rfl (lv_at hl 0 rfl) ?_
  refine lv_iload_n hx hb dX2_setCrew_1 rfl (lv_at hl 1 rfl) ?_
  refine zi_const hx hb dX2_setCrew_2 ?_
  refine zi_bipush hx hb dX2_setCrew_3 (by decide) ?_
  refine zcalli (va_runS (As := [.int (iI (v)), .int (iI (0)), .int (iI (24))]) (rest := [.ref (ad 0)]) ⟨hx, hb, hml, hown, hts⟩ (c_X2_in l D cy A ad _ (v) (0) (24) (by first | decide | (constructor <;> omega)) (by first | decide | (constructor <;> omega)) (by first | decide | (constructor <;> omega))) (va_cwS 3 hts gX2_setCrew_X2_in rfl rfl rfl (by decide +kernel) ⟨(Nat.le_of_ble_eq_true rfl), (Nat.le_of_ble_eq_true rfl)⟩) (zPS hE hS) rfl rfl hl.1 rfl (lv_room (Nat.le_of_ble_eq_true rfl)) dX2_setCrew_5 ⟨(Nat.le_of_ble_eq_true rfl), (Nat.le_of_ble_eq_true rfl)⟩) hS (fun z_5 H1 locs hz_5 hq hz1 hk1 hS => ?_)
  obtain ⟨hqe, hv_5⟩ := hq
  replace hqe := hqe.symm
  subst hqe
  refine zf_eq (tgt := 25) hx hb dX2_setCrew_8 (by decide) (by first | decide | (constructor <;> omega)) (fun c_8 => ?_) (fun c_8 => ?_)
  · refine zi_const hx hb dX2_setCrew_25 ?_
    refine zput (C := RX2) (T := TX2) (N := 19) hx hb hts hinX2 tyX2 tyX2_ok nmX2 hown hE hS hw 0 mE_0 rfl 0 (by decide) (hts (.fieldLink RX2 66 "FormworkYardModel" "thrown" "I") (by decide +kernel)) rfl (ty := .int) (by decide +kernel) rfl rfl (Nat.le_of_ble_eq_true rfl) dX2_setCrew_26 (fun H locs hw hS => ?_)
    have hw := hw.cong (mU_i 0 (by decide) (1))
    refine lv_aload_n hx hb dX2_setCrew_29 rfl (lv_at hl 0 rfl) ?_
    refine zget (C := RX2) (T := TX2) (N := 19) hx hb hts hinX2 hown hE hw 0 mE_0 rfl 0 (by decide) (hts (.fieldLink RX2 66 "FormworkYardModel" "thrown" "I") (by decide +kernel)) rfl dX2_setCrew_30 ?_
    refine zi_top (fun v_30 hv_30 => ?_)
    simp [va_up] at hv_30
    subst hv_30
    refine zf_ne (tgt := 46) hx hb dX2_setCrew_33 (by decide) (by first | decide | (constructor <;> omega)) (fun c_33 => ?_) (fun c_33 => ?_)
    · refine zvret hx hb hr hlocks hS (Nat.le_of_ble_eq_true rfl) (Nat.le_of_ble_eq_true rfl) ?_ dX2_setCrew_46
      refine ⟨1, _, hw, by (repeat' split) <;> omega, ?_⟩
      exact Or.inl ⟨by decide, rfl⟩
    · exfalso; omega
  · refine lv_iload_n hx hb dX2_setCrew_11 rfl (lv_at hl 2 rfl) ?_
    refine zi_const hx hb dX2_setCrew_12 ?_
    refine zi_bipush hx hb dX2_setCrew_13 (by decide) ?_
    refine zcalli (va_runS (As := [.int (iI (u)), .int (iI (0)), .int (iI (24))]) (rest := [.ref (ad 0)]) ⟨hx, hb, hml, hown, hts⟩ (c_X2_in l D cy A ad _ (u) (0) (24) (by first | decide | (constructor <;> omega)) (by first | decide | (constructor <;> omega)) (by first | decide | (constructor <;> omega))) (va_cwS 3 hts gX2_setCrew_X2_in rfl rfl rfl (by decide +kernel) ⟨(Nat.le_of_ble_eq_true rfl), (Nat.le_of_ble_eq_true rfl)⟩) (zPS hE hS) rfl rfl hl.1 rfl (lv_room (Nat.le_of_ble_eq_true rfl)) dX2_setCrew_15 ⟨(Nat.le_of_ble_eq_true rfl), (Nat.le_of_ble_eq_true rfl)⟩) hS (fun z_15 H1 locs hz_15 hq hz1 hk1 hS => ?_)
    obtain ⟨hqe, hv_15⟩ := hq
    replace hqe := hqe.symm
    subst hqe
    refine zf_eq (tgt := 25) hx hb dX2_setCrew_18 (by decide) (by first | decide | (constructor <;> omega)) (fun c_18 => ?_) (fun c_18 => ?_)
    · refine zi_const hx hb dX2_setCrew_25 ?_
      refine zput (C := RX2) (T := TX2) (N := 19) hx hb hts hinX2 tyX2 tyX2_ok nmX2 hown hE hS hw 0 mE_0 rfl 0 (by decide) (hts (.fieldLink RX2 66 "FormworkYardModel" "thrown" "I") (by decide +kernel)) rfl (ty := .int) (by decide +kernel) rfl rfl (Nat.le_of_ble_eq_true rfl) dX2_setCrew_26 (fun H locs hw hS => ?_)
      have hw := hw.cong (mU_i 0 (by decide) (1))
      refine lv_aload_n hx hb dX2_setCrew_29 rfl (lv_at hl 0 rfl) ?_
      refine zget (C := RX2) (T := TX2) (N := 19) hx hb hts hinX2 hown hE hw 0 mE_0 rfl 0 (by decide) (hts (.fieldLink RX2 66 "FormworkYardModel" "thrown" "I") (by decide +kernel)) rfl dX2_setCrew_30 ?_
      refine zi_top (fun v_30 hv_30 => ?_)
      simp [va_up] at hv_30
      subst hv_30
      refine zf_ne (tgt := 46) hx hb dX2_setCrew_33 (by decide) (by first | decide | (constructor <;> omega)) (fun c_33 => ?_) (fun c_33 => ?_)
      · refine zvret hx hb hr hlocks hS (Nat.le_of_ble_eq_true rfl) (Nat.le_of_ble_eq_true rfl) ?_ dX2_setCrew_46
        refine ⟨1, _, hw, by (repeat' split) <;> omega, ?_⟩
        exact Or.inl ⟨by decide, rfl⟩
      · exfalso; omega
    · refine zi_const hx hb dX2_setCrew_21 ?_
      refine lv_goto (tgt := 26) hx hb dX2_setCrew_22 (by decide) ?_
      refine zput (C := RX2) (T := TX2) (N := 19) hx hb hts hinX2 tyX2 tyX2_ok nmX2 hown hE hS hw 0 mE_0 rfl 0 (by decide) (hts (.fieldLink RX2 66 "FormworkYardModel" "thrown" "I") (by decide +kernel)) rfl (ty := .int) (by decide +kernel) rfl rfl (Nat.le_of_ble_eq_true rfl) dX2_setCrew_26 (fun H locs hw hS => ?_)
      have hw := hw.cong (mU_i 0 (by decide) (0))
      refine lv_aload_n hx hb dX2_setCrew_29 rfl (lv_at hl 0 rfl) ?_
      refine zget (C := RX2) (T := TX2) (N := 19) hx hb hts hinX2 hown hE hw 0 mE_0 rfl 0 (by decide) (hts (.fieldLink RX2 66 "FormworkYardModel" "thrown" "I") (by decide +kernel)) rfl dX2_setCrew_30 ?_
      refine zi_top (fun v_30 hv_30 => ?_)
      simp [va_up] at hv_30
      subst hv_30
      refine zf_ne (tgt := 46) hx hb dX2_setCrew_33 (by decide) (by first | decide | (constructor <;> omega)) (fun c_33 => ?_) (fun c_33 => ?_)
      · exfalso; omega
      · refine lv_aload_n hx hb dX2_setCrew_36 rfl (lv_at hl 0 rfl) ?_
        refine lv_iload_n hx hb dX2_setCrew_37 rfl (lv_at hl 1 rfl) ?_
        refine zput (C := RX2) (T := TX2) (N := 19) hx hb hts hinX2 tyX2 tyX2_ok nmX2 hown hE hS hw 0 mE_0 rfl 5 (by decide) (hts (.fieldLink RX2 23 "FormworkYardModel" "setUp" "I") (by decide +kernel)) rfl (ty := .int) (by decide +kernel) rfl rfl (Nat.le_of_ble_eq_true rfl) dX2_setCrew_38 (fun H locs hw hS => ?_)
        have hw := hw.cong (mU_i 5 (by decide) (v))
        refine lv_aload_n hx hb dX2_setCrew_41 rfl (lv_at hl 0 rfl) ?_
        refine lv_iload_n hx hb dX2_setCrew_42 rfl (lv_at hl 2 rfl) ?_
        refine zput (C := RX2) (T := TX2) (N := 19) hx hb hts hinX2 tyX2 tyX2_ok nmX2 hown hE hS hw 0 mE_0 rfl 6 (by decide) (hts (.fieldLink RX2 26 "FormworkYardModel" "cleaning" "I") (by decide +kernel)) rfl (ty := .int) (by decide +kernel) rfl rfl (Nat.le_of_ble_eq_true rfl) dX2_setCrew_43 (fun H locs hw hS => ?_)
        have hw := hw.cong (mU_i 6 (by decide) (u))
        refine zvret hx hb hr hlocks hS (Nat.le_of_ble_eq_true rfl) (Nat.le_of_ble_eq_true rfl) ?_ dX2_setCrew_46
        refine ⟨0, _, hw, by (repeat' split) <;> omega, ?_⟩
        exact Or.inr ⟨rfl, rfl⟩

set_option maxHeartbeats 4000000 in
set_option maxRecDepth 100000 in
theorem c_X2_isPlan (l : Launch) (D : va_G) (cy : Nat → ClassId) (A : Nat → Prop) (ad : Nat → Nat) (H0 : Heap) (a b d f : Int) (h1 : zr a) (h2 : zr b) (h3 : zr d) (h4 : zr f) : Met l yX2_isPlan wsX2_isPlan ({ frames := 1, cells := 0, slots := 0, locals := 22 }) (zPc D cy A [.int (iI (a)), .int (iI (b)), .int (iI (d)), .int (iI (f))] H0) (zQi (fun z H1 => H1 = H0 ∧ ((z = 1 ∧ (0 ≤ a ∧ a ≤ 900) ∧ (1 ≤ b ∧ b ≤ 200) ∧ (1 ≤ d ∧ d ≤ 30) ∧ (1 ≤ f ∧ f ≤ 100)) ∨ (z = 0 ∧ ¬ ((0 ≤ a ∧ a ≤ 900) ∧ (1 ≤ b ∧ b ≤ 200) ∧ (1 ≤ d ∧ d ≤ 30) ∧ (1 ≤ f ∧ f ≤ 100))))) A) 0 0 A := by
  refine Met.ofW (cc := cX2_isPlan) (maxL := 4) (ret := (some .boolean)) (by decide) rfl ?_
  intro pg en s mt args below meth c s₁ B hml hv
  obtain ⟨rfl, hH, hE⟩ := hv
  subst hH
  have hx := B.exec
  have hb := B.bytes
  have hr := B.returns
  have hts := atoms_spec (ws := wsX2_isPlan) B.pre
  have hown : s.vm.findClass RX2 = some mt.cls := findClass_of_methodNamed B.named
  have hlocks := B.notSynchronized
  have hS : va_S A s.heap s.heap [] := va_S.rf
  have hl := lv_entry ([.int (iI (a)), .int (iI (b)), .int (iI (d)), .int (iI (f))]) (n := 4) (Nat.le_of_ble_eq_true rfl)
  rw [lg_entry_eq]
  generalize (lg_sl ([.int (iI (a)), .int (iI (b)), .int (iI (d)), .int (iI (f))]) ++ List.replicate (4 - (lg_sl ([.int (iI (a)), .int (iI (b)), .int (iI (d)), .int (iI (f))])).length) Slot.unset).toArray = ls at hl ⊢
  have hl : lv_has ls 4 [(0, .int (iI (a))), (1, .int (iI (b))), (2, .int (iI (d))), (3, .int (iI (f)))] := hl
  refine lv_iload_n hx hb dX2_isPlan_0 rfl (lv_at hl 0 rfl) ?_
  refine zi_const hx hb dX2_isPlan_1 ?_
  refine zi_sipush hx hb dX2_isPlan_2 (by decide) ?_
  refine zcalli (va_runS (As := [.int (iI (a)), .int (iI (0)), .int (iI (900))]) (rest := []) ⟨hx, hb, hml, hown, hts⟩ (c_X2_in l D cy A ad _ (a) (0) (900) (by first | decide | (constructor <;> omega)) (by first | decide | (constructor <;> omega)) (by first | decide | (constructor <;> omega))) (va_cwS 3 hts gX2_isPlan_X2_in rfl rfl rfl (by decide +kernel) ⟨(Nat.le_of_ble_eq_true rfl), (Nat.le_of_ble_eq_true rfl)⟩) (zPS hE hS) rfl rfl hl.1 rfl (lv_room (Nat.le_of_ble_eq_true rfl)) dX2_isPlan_5 ⟨(Nat.le_of_ble_eq_true rfl), (Nat.le_of_ble_eq_true rfl)⟩) hS (fun z_5 H1 locs hz_5 hq hz1 hk1 hS => ?_)
  obtain ⟨hqe, hv_5⟩ := hq
  replace hqe := hqe.symm
  subst hqe
  refine zf_eq (tgt := 46) hx hb dX2_isPlan_8 (by decide) (by first | decide | (constructor <;> omega)) (fun c_8 => ?_) (fun c_8 => ?_)
  · refine zi_const hx hb dX2_isPlan_46 ?_
    refine zzret hx hb hr hlocks hS (Nat.le_of_ble_eq_true rfl) (Nat.le_of_ble_eq_true rfl) (by omega) ?_ dX2_isPlan_47
    exact ⟨rfl, by omega⟩
  · refine lv_iload_n hx hb dX2_isPlan_11 rfl (lv_at hl 1 rfl) ?_
    refine zi_const hx hb dX2_isPlan_12 ?_
    refine zi_sipush hx hb dX2_isPlan_13 (by decide) ?_
    refine zcalli (va_runS (As := [.int (iI (b)), .int (iI (1)), .int (iI (200))]) (rest := []) ⟨hx, hb, hml, hown, hts⟩ (c_X2_in l D cy A ad _ (b) (1) (200) (by first | decide | (constructor <;> omega)) (by first | decide | (constructor <;> omega)) (by first | decide | (constructor <;> omega))) (va_cwS 3 hts gX2_isPlan_X2_in rfl rfl rfl (by decide +kernel) ⟨(Nat.le_of_ble_eq_true rfl), (Nat.le_of_ble_eq_true rfl)⟩) (zPS hE hS) rfl rfl hl.1 rfl (lv_room (Nat.le_of_ble_eq_true rfl)) dX2_isPlan_16 ⟨(Nat.le_of_ble_eq_true rfl), (Nat.le_of_ble_eq_true rfl)⟩) hS (fun z_16 H1 locs hz_16 hq hz1 hk1 hS => ?_)
    obtain ⟨hqe, hv_16⟩ := hq
    replace hqe := hqe.symm
    subst hqe
    refine zf_eq (tgt := 46) hx hb dX2_isPlan_19 (by decide) (by first | decide | (constructor <;> omega)) (fun c_19 => ?_) (fun c_19 => ?_)
    · refine zi_const hx hb dX2_isPlan_46 ?_
      refine zzret hx hb hr hlocks hS (Nat.le_of_ble_eq_true rfl) (Nat.le_of_ble_eq_true rfl) (by omega) ?_ dX2_isPlan_47
      exact ⟨rfl, by omega⟩
    · refine lv_iload_n hx hb dX2_isPlan_22 rfl (lv_at hl 2 rfl) ?_
      refine zi_const hx hb dX2_isPlan_23 ?_
      refine zi_bipush hx hb dX2_isPlan_24 (by decide) ?_
      refine zcalli (va_runS (As := [.int (iI (d)), .int (iI (1)), .int (iI (30))]) (rest := []) ⟨hx, hb, hml, hown, hts⟩ (c_X2_in l D cy A ad _ (d) (1) (30) (by first | decide | (constructor <;> omega)) (by first | decide | (constructor <;> omega)) (by first | decide | (constructor <;> omega))) (va_cwS 3 hts gX2_isPlan_X2_in rfl rfl rfl (by decide +kernel) ⟨(Nat.le_of_ble_eq_true rfl), (Nat.le_of_ble_eq_true rfl)⟩) (zPS hE hS) rfl rfl hl.1 rfl (lv_room (Nat.le_of_ble_eq_true rfl)) dX2_isPlan_26 ⟨(Nat.le_of_ble_eq_true rfl), (Nat.le_of_ble_eq_true rfl)⟩) hS (fun z_26 H1 locs hz_26 hq hz1 hk1 hS => ?_)
      obtain ⟨hqe, hv_26⟩ := hq
      replace hqe := hqe.symm
      subst hqe
      refine zf_eq (tgt := 46) hx hb dX2_isPlan_29 (by decide) (by first | decide | (constructor <;> omega)) (fun c_29 => ?_) (fun c_29 => ?_)
      · refine zi_const hx hb dX2_isPlan_46 ?_
        refine zzret hx hb hr hlocks hS (Nat.le_of_ble_eq_true rfl) (Nat.le_of_ble_eq_true rfl) (by omega) ?_ dX2_isPlan_47
        exact ⟨rfl, by omega⟩
      · refine lv_iload_n hx hb dX2_isPlan_32 rfl (lv_at hl 3 rfl) ?_
        refine zi_const hx hb dX2_isPlan_33 ?_
        refine zi_bipush hx hb dX2_isPlan_34 (by decide) ?_
        refine zcalli (va_runS (As := [.int (iI (f)), .int (iI (1)), .int (iI (100))]) (rest := []) ⟨hx, hb, hml, hown, hts⟩ (c_X2_in l D cy A ad _ (f) (1) (100) (by first | decide | (constructor <;> omega)) (by first | decide | (constructor <;> omega)) (by first | decide | (constructor <;> omega))) (va_cwS 3 hts gX2_isPlan_X2_in rfl rfl rfl (by decide +kernel) ⟨(Nat.le_of_ble_eq_true rfl), (Nat.le_of_ble_eq_true rfl)⟩) (zPS hE hS) rfl rfl hl.1 rfl (lv_room (Nat.le_of_ble_eq_true rfl)) dX2_isPlan_36 ⟨(Nat.le_of_ble_eq_true rfl), (Nat.le_of_ble_eq_true rfl)⟩) hS (fun z_36 H1 locs hz_36 hq hz1 hk1 hS => ?_)
        obtain ⟨hqe, hv_36⟩ := hq
        replace hqe := hqe.symm
        subst hqe
        refine zf_eq (tgt := 46) hx hb dX2_isPlan_39 (by decide) (by first | decide | (constructor <;> omega)) (fun c_39 => ?_) (fun c_39 => ?_)
        · refine zi_const hx hb dX2_isPlan_46 ?_
          refine zzret hx hb hr hlocks hS (Nat.le_of_ble_eq_true rfl) (Nat.le_of_ble_eq_true rfl) (by omega) ?_ dX2_isPlan_47
          exact ⟨rfl, by omega⟩
        · refine zi_const hx hb dX2_isPlan_42 ?_
          refine lv_goto (tgt := 47) hx hb dX2_isPlan_43 (by decide) ?_
          refine zzret hx hb hr hlocks hS (Nat.le_of_ble_eq_true rfl) (Nat.le_of_ble_eq_true rfl) (by omega) ?_ dX2_isPlan_47
          exact ⟨rfl, by omega⟩
