set_option maxHeartbeats 4000000 in
set_option maxRecDepth 100000 in
theorem c_X0_isBusy (l : Launch) (D : va_G) (cy : Nat → ClassId) (A : Nat → Prop) (ad : Nat → Nat) (ya : Nat → Nat → Int) (yi : Nat → Int) (pr : Nat → Option PS) (H0 : Heap) (i : Nat) (p0 : PS) (h : Int) (hw : zW D A ad (yE cy ad ya yi pr) H0) (hi : i < 10) (hp0 : pr i = some p0) (h1 : zr h) (h2 : zr (p0.1 9)) (h3 : zr (p0.1 10)) : Met l yX0_isBusy wsX0_isBusy ({ frames := 0, cells := 0, slots := 0, locals := 0 }) (zPc D cy A [.ref (ad (10 + 3 * i)), .int (iI (h))] H0) (zQi (fun z H1 => H1 = H0 ∧ ((z = 1 ∧ p0.1 9 ≤ h ∧ h < p0.1 10) ∨ (z = 0 ∧ ¬ (p0.1 9 ≤ h ∧ h < p0.1 10)))) A) 0 0 A := by
  refine Met.ofW (cc := cX0_isBusy) (maxL := 2) (ret := (some .boolean)) (by decide) rfl ?_
  intro pg en s mt args below meth c s₁ B hml hv
  obtain ⟨rfl, hH, hE⟩ := hv
  subst hH
  have hx := B.exec
  have hb := B.bytes
  have hr := B.returns
  have hts := atoms_spec (ws := wsX0_isBusy) B.pre
  have hown : s.vm.findClass RX0 = some mt.cls := findClass_of_methodNamed B.named
  have hlocks := B.notSynchronized
  have hinX0 : ∀ w ∈ u_ws RX0 TX0 13, w ∈ wsX0_isBusy := by decide +kernel
  have hS : va_S A s.heap s.heap [] := va_S.rf
  have hl := lv_entry ([.ref (ad (10 + 3 * i)), .int (iI (h))]) (n := 2) (Nat.le_of_ble_eq_true rfl)
  rw [lg_entry_eq]
  generalize (lg_sl ([.ref (ad (10 + 3 * i)), .int (iI (h))]) ++ List.replicate (2 - (lg_sl ([.ref (ad (10 + 3 * i)), .int (iI (h))])).length) Slot.unset).toArray = ls at hl ⊢
  have hl : lv_has ls 2 [(0, .ref (ad (10 + 3 * i))), (1, .int (iI (h)))] := hl
  refine lv_aload_n hx hb dX0_isBusy_0 rfl (lv_at hl 0 rfl) ?_
  refine zget (C := RX0) (T := TX0) (N := 13) hx hb hts hinX0 hown hE hw (10 + 3 * i) (yE_p (by omega) hp0) rfl 9 (by decide) (hts (.fieldLink RX0 34 "FormworkYard$Pour" "busyFrom" "I") (by decide +kernel)) rfl dX0_isBusy_1 ?_
  refine lv_iload_n hx hb dX0_isBusy_4 rfl (lv_at hl 1 rfl) ?_
  refine zc_gt (tgt := 20) hx hb dX0_isBusy_5 (by decide) (by first | decide | (constructor <;> omega)) (by first | decide | (constructor <;> omega)) (fun c_5 => ?_) (fun c_5 => ?_)
  · refine zi_const hx hb dX0_isBusy_20 ?_
    refine zzret hx hb hr hlocks hS (Nat.le_of_ble_eq_true rfl) (Nat.le_of_ble_eq_true rfl) (by omega) ?_ dX0_isBusy_21
    exact ⟨rfl, by omega⟩
  · refine lv_iload_n hx hb dX0_isBusy_8 rfl (lv_at hl 1 rfl) ?_
    refine lv_aload_n hx hb dX0_isBusy_9 rfl (lv_at hl 0 rfl) ?_
    refine zget (C := RX0) (T := TX0) (N := 13) hx hb hts hinX0 hown hE hw (10 + 3 * i) (yE_p (by omega) hp0) rfl 10 (by decide) (hts (.fieldLink RX0 37 "FormworkYard$Pour" "busyUntil" "I") (by decide +kernel)) rfl dX0_isBusy_10 ?_
    refine zc_ge (tgt := 20) hx hb dX0_isBusy_13 (by decide) (by first | decide | (constructor <;> omega)) (by first | decide | (constructor <;> omega)) (fun c_13 => ?_) (fun c_13 => ?_)
    · refine zi_const hx hb dX0_isBusy_20 ?_
      refine zzret hx hb hr hlocks hS (Nat.le_of_ble_eq_true rfl) (Nat.le_of_ble_eq_true rfl) (by omega) ?_ dX0_isBusy_21
      exact ⟨rfl, by omega⟩
    · refine zi_const hx hb dX0_isBusy_16 ?_
      refine lv_goto (tgt := 21) hx hb dX0_isBusy_17 (by decide) ?_
      refine zzret hx hb hr hlocks hS (Nat.le_of_ble_eq_true rfl) (Nat.le_of_ble_eq_true rfl) (by omega) ?_ dX0_isBusy_21
      exact ⟨rfl, by omega⟩

set_option maxHeartbeats 4000000 in
set_option maxRecDepth 100000 in
theorem c_X0_hoursOfBreaks (l : Launch) (D : va_G) (cy : Nat → ClassId) (A : Nat → Prop) (ad : Nat → Nat) (ya : Nat → Nat → Int) (yi : Nat → Int) (pr : Nat → Option PS) (H0 : Heap) (i : Nat) (p0 : PS) (hw : zW D A ad (yE cy ad ya yi pr) H0) (hi : i < 11) (hp0 : pr i = some p0) (hpb : pB p0) : Met l yX0_hoursOfBreaks wsX0_hoursOfBreaks ({ frames := 0, cells := 0, slots := 0, locals := 0 }) (zPc D cy A [.ref (ad (10 + 3 * i))] H0) (zQi (fun z H1 => H1 = H0 ∧ z = sl p0.2.2.1 (p0.1 4).toNat) A) 0 0 A := by
  refine Met.ofW (cc := cX0_hoursOfBreaks) (maxL := 3) (ret := (some .int)) (by decide) rfl ?_
  intro pg en s mt args below meth c s₁ B hml hv
  obtain ⟨rfl, hH, hE⟩ := hv
  subst hH
  have hx := B.exec
  have hb := B.bytes
  have hr := B.returns
  have hts := atoms_spec (ws := wsX0_hoursOfBreaks) B.pre
  have hown : s.vm.findClass RX0 = some mt.cls := findClass_of_methodNamed B.named
  have hlocks := B.notSynchronized
  have hinX0 : ∀ w ∈ u_ws RX0 TX0 13, w ∈ wsX0_hoursOfBreaks := by decide +kernel
  have hS : va_S A s.heap s.heap [] := va_S.rf
  have hl := lv_entry ([.ref (ad (10 + 3 * i))]) (n := 3) (Nat.le_of_ble_eq_true rfl)
  rw [lg_entry_eq]
  generalize (lg_sl ([.ref (ad (10 + 3 * i))]) ++ List.replicate (3 - (lg_sl ([.ref (ad (10 + 3 * i))])).length) Slot.unset).toArray = ls at hl ⊢
  have hl : lv_has ls 3 [(0, .ref (ad (10 + 3 * i)))] := hl
  obtain ⟨q1, q2, q3, q4, q5, q6⟩ := id hpb
  refine zi_const hx hb dX0_hoursOfBreaks_0 ?_
  refine lv_istore_n (lv' := [(1, .int (iI (0))), (0, .ref (ad (10 + 3 * i)))]) hx hb dX0_hoursOfBreaks_1 rfl hl (by decide) rfl (fun ls hl => ?_)
  refine zi_const hx hb dX0_hoursOfBreaks_2 ?_
  refine lv_istore_n (lv' := [(2, .int (iI (0))), (1, .int (iI (0))), (0, .ref (ad (10 + 3 * i)))]) hx hb dX0_hoursOfBreaks_3 rfl hl (by decide) rfl (fun ls hl => ?_)
  have loop_4 : ∀ (n : Nat) (k : Nat) (w : Int) (locs : List Loc) (ls : Array Slot), (p0.1 4).toNat - k < n → (k ≤ (p0.1 4).toNat) → (w = sl p0.2.2.1 k) → va_S A s.heap s.heap locs → lv_has ls 3 [(2, .int (iI ((k : Int)))), (1, .int (iI (w))), (0, .ref (ad (10 + 3 * i)))] → W pg l en (headSpec wsX0_hoursOfBreaks ({ frames := 0, cells := 0, slots := 0, locals := 0 })).room s mt ([.ref (ad (10 + 3 * i))] : List Value).toArray below meth c s.heap locs 0 0 (MQ below (zQi (fun z H1 => H1 = s.heap ∧ z = sl p0.2.2.1 (p0.1 4).toNat) A) ([.ref (ad (10 + 3 * i))] : List Value).toArray s 0 0 A) (F0 mt 4 ls []) := by
    intro n
    induction n with
    | zero =>
      intro k w locs ls hm hk hs
      exfalso; omega
    | succ n ih =>
      intro k w locs ls hm hk hs hS hl
      have hbb := sl_b (f := p0.2.2.1) (a := 0) (b := 9) (n := k) (fun j hj => by have := q6 j (by omega); omega)
      refine lv_iload_n hx hb dX0_hoursOfBreaks_4 rfl (lv_at hl 0 rfl) ?_
      refine lv_aload_n hx hb dX0_hoursOfBreaks_5 rfl (lv_at hl 2 rfl) ?_
      refine zget (C := RX0) (T := TX0) (N := 13) hx hb hts hinX0 hown hE hw (10 + 3 * i) (yE_p (by omega) hp0) rfl 4 (by decide) (hts (.fieldLink RX0 31 "FormworkYard$Pour" "breaks" "I") (by decide +kernel)) rfl dX0_hoursOfBreaks_6 ?_
      refine zc_ge (tgt := 32) hx hb dX0_hoursOfBreaks_9 (by decide) (by first | decide | (constructor <;> omega)) (by first | decide | (constructor <;> omega)) (fun c_9 => ?_) (fun c_9 => ?_)
      · refine lv_iload_n hx hb dX0_hoursOfBreaks_32 rfl (lv_at hl 1 rfl) ?_
        refine ziret hx hb hr hlocks hS (Nat.le_of_ble_eq_true rfl) (Nat.le_of_ble_eq_true rfl) (by first | decide | (constructor <;> omega)) ?_ dX0_hoursOfBreaks_33
        exact ⟨rfl, by rw [hs, show k = (p0.1 4).toNat by omega]⟩
      · refine lv_iload_n hx hb dX0_hoursOfBreaks_12 rfl (lv_at hl 0 rfl) ?_
        refine zi_const hx hb dX0_hoursOfBreaks_13 ?_
        refine zc_ge (tgt := 32) hx hb dX0_hoursOfBreaks_14 (by decide) (by first | decide | (constructor <;> omega)) (by first | decide | (constructor <;> omega)) (fun c_14 => ?_) (fun c_14 => ?_)
        · refine lv_iload_n hx hb dX0_hoursOfBreaks_32 rfl (lv_at hl 1 rfl) ?_
          refine ziret hx hb hr hlocks hS (Nat.le_of_ble_eq_true rfl) (Nat.le_of_ble_eq_true rfl) (by first | decide | (constructor <;> omega)) ?_ dX0_hoursOfBreaks_33
          exact ⟨rfl, by rw [hs, show k = (p0.1 4).toNat by omega]⟩
        · refine lv_iload_n hx hb dX0_hoursOfBreaks_17 rfl (lv_at hl 1 rfl) ?_
          refine lv_aload_n hx hb dX0_hoursOfBreaks_18 rfl (lv_at hl 2 rfl) ?_
          refine zget (C := RX0) (T := TX0) (N := 13) hx hb hts hinX0 hown hE hw (10 + 3 * i) (yE_p (by omega) hp0) rfl 6 (by decide) (hts (.fieldLink RX0 15 "FormworkYard$Pour" "lengths" "[I") (by decide +kernel)) rfl dX0_hoursOfBreaks_19 ?_
          refine lv_iload_n hx hb dX0_hoursOfBreaks_22 rfl (lv_at hl 0 rfl) ?_
          refine ziald hx hb hE hw (12 + 3 * i) (yE_r (by omega) hp0) k rfl (by omega) (by omega) dX0_hoursOfBreaks_23 ?_
          refine zi_top (fun v_23 hv_23 => ?_)
          refine zi_add hx hb dX0_hoursOfBreaks_24 ?_
          refine zi_top (fun x_25 hx_25 => ?_)
          refine lv_istore_n (lv' := [(1, .int (iI (x_25))), (2, .int (iI ((k : Int)))), (0, .ref (ad (10 + 3 * i)))]) hx hb dX0_hoursOfBreaks_25 rfl hl (by decide) rfl (fun ls hl => ?_)
          refine zi_iinc (lv' := [(2, .int (iI ((k : Int) + 1))), (1, .int (iI (x_25))), (0, .ref (ad (10 + 3 * i)))]) hx hb dX0_hoursOfBreaks_26 hl (k := 1) rfl (by decide) rfl (fun ls hl => ?_)
          refine lv_goto (tgt := 4) hx hb dX0_hoursOfBreaks_29 (by decide) ?_
          exact ih (k + 1) x_25 _ _ (by omega) (by omega) (by simp only [sl]; omega) hS (lv_sub hl [0, 1, 2] rfl)
  exact loop_4 ((p0.1 4).toNat + 1) 0 0 _ _ (by omega) (by omega) rfl hS (lv_sub hl [0, 1, 2] rfl)

set_option maxHeartbeats 4000000 in
set_option maxRecDepth 100000 in
theorem c_X1_isHour (l : Launch) (D : va_G) (cy : Nat → ClassId) (A : Nat → Prop) (ad : Nat → Nat) (H0 : Heap) (h : Int) (h1 : zr h) : Met l yX1_isHour wsX1_isHour ({ frames := 0, cells := 0, slots := 0, locals := 0 }) (zPc D cy A [.int (iI (h))] H0) (zQi (fun z H1 => H1 = H0 ∧ ((z = 1 ∧ 0 ≤ h ∧ h < 1000) ∨ (z = 0 ∧ (h < 0 ∨ 1000 ≤ h)))) A) 0 0 A := by
  refine Met.ofW (cc := cX1_isHour) (maxL := 1) (ret := (some .boolean)) (by decide) rfl ?_
  intro pg en s mt args below meth c s₁ B hml hv
  obtain ⟨rfl, hH, hE⟩ := hv
  subst hH
  have hx := B.exec
  have hb := B.bytes
  have hr := B.returns
  have hts := atoms_spec (ws := wsX1_isHour) B.pre
  have hown : s.vm.findClass RX1 = some mt.cls := findClass_of_methodNamed B.named
  have hlocks := B.notSynchronized
  have hS : va_S A s.heap s.heap [] := va_S.rf
  have hl := lv_entry ([.int (iI (h))]) (n := 1) (Nat.le_of_ble_eq_true rfl)
  rw [lg_entry_eq]
  generalize (lg_sl ([.int (iI (h))]) ++ List.replicate (1 - (lg_sl ([.int (iI (h))])).length) Slot.unset).toArray = ls at hl ⊢
  have hl : lv_has ls 1 [(0, .int (iI (h)))] := hl
  refine lv_iload_n hx hb dX1_isHour_0 rfl (lv_at hl 0 rfl) ?_
  refine zf_lt (tgt := 15) hx hb dX1_isHour_1 (by decide) (by first | decide | (constructor <;> omega)) (fun c_1 => ?_) (fun c_1 => ?_)
  · refine zi_const hx hb dX1_isHour_15 ?_
    refine zzret hx hb hr hlocks hS (Nat.le_of_ble_eq_true rfl) (Nat.le_of_ble_eq_true rfl) (by omega) ?_ dX1_isHour_16
    exact ⟨rfl, by omega⟩
  · refine lv_iload_n hx hb dX1_isHour_4 rfl (lv_at hl 0 rfl) ?_
    refine zi_sipush hx hb dX1_isHour_5 (by decide) ?_
    refine zc_ge (tgt := 15) hx hb dX1_isHour_8 (by decide) (by first | decide | (constructor <;> omega)) (by first | decide | (constructor <;> omega)) (fun c_8 => ?_) (fun c_8 => ?_)
    · refine zi_const hx hb dX1_isHour_15 ?_
      refine zzret hx hb hr hlocks hS (Nat.le_of_ble_eq_true rfl) (Nat.le_of_ble_eq_true rfl) (by omega) ?_ dX1_isHour_16
      exact ⟨rfl, by omega⟩
    · refine zi_const hx hb dX1_isHour_11 ?_
      refine lv_goto (tgt := 16) hx hb dX1_isHour_12 (by decide) ?_
      refine zzret hx hb hr hlocks hS (Nat.le_of_ble_eq_true rfl) (Nat.le_of_ble_eq_true rfl) (by omega) ?_ dX1_isHour_16
      exact ⟨rfl, by omega⟩

set_option maxHeartbeats 4000000 in
set_option maxRecDepth 100000 in
theorem c_X1_isNumber (l : Launch) (D : va_G) (cy : Nat → ClassId) (A : Nat → Prop) (ad : Nat → Nat) (H0 : Heap) (h : Int) (h1 : zr h) : Met l yX1_isNumber wsX1_isNumber ({ frames := 0, cells := 0, slots := 0, locals := 0 }) (zPc D cy A [.int (iI (h))] H0) (zQi (fun z H1 => H1 = H0 ∧ ((z = 1 ∧ 0 ≤ h ∧ h < 10) ∨ (z = 0 ∧ (h < 0 ∨ 10 ≤ h)))) A) 0 0 A := by
  refine Met.ofW (cc := cX1_isNumber) (maxL := 1) (ret := (some .boolean)) (by decide) rfl ?_
  intro pg en s mt args below meth c s₁ B hml hv
  obtain ⟨rfl, hH, hE⟩ := hv
  subst hH
  have hx := B.exec
  have hb := B.bytes
  have hr := B.returns
  have hts := atoms_spec (ws := wsX1_isNumber) B.pre
  have hown : s.vm.findClass RX1 = some mt.cls := findClass_of_methodNamed B.named
  have hlocks := B.notSynchronized
  have hS : va_S A s.heap s.heap [] := va_S.rf
  have hl := lv_entry ([.int (iI (h))]) (n := 1) (Nat.le_of_ble_eq_true rfl)
  rw [lg_entry_eq]
  generalize (lg_sl ([.int (iI (h))]) ++ List.replicate (1 - (lg_sl ([.int (iI (h))])).length) Slot.unset).toArray = ls at hl ⊢
  have hl : lv_has ls 1 [(0, .int (iI (h)))] := hl
  refine lv_iload_n hx hb dX1_isNumber_0 rfl (lv_at hl 0 rfl) ?_
  refine zf_lt (tgt := 14) hx hb dX1_isNumber_1 (by decide) (by first | decide | (constructor <;> omega)) (fun c_1 => ?_) (fun c_1 => ?_)
  · refine zi_const hx hb dX1_isNumber_14 ?_
    refine zzret hx hb hr hlocks hS (Nat.le_of_ble_eq_true rfl) (Nat.le_of_ble_eq_true rfl) (by omega) ?_ dX1_isNumber_15
    exact ⟨rfl, by omega⟩
  · refine lv_iload_n hx hb dX1_isNumber_4 rfl (lv_at hl 0 rfl) ?_
    refine zi_bipush hx hb dX1_isNumber_5 (by decide) ?_
    refine zc_ge (tgt := 14) hx hb dX1_isNumber_7 (by decide) (by first | decide | (constructor <;> omega)) (by first | decide | (constructor <;> omega)) (fun c_7 => ?_) (fun c_7 => ?_)
    · refine zi_const hx hb dX1_isNumber_14 ?_
      refine zzret hx hb hr hlocks hS (Nat.le_of_ble_eq_true rfl) (Nat.le_of_ble_eq_true rfl) (by omega) ?_ dX1_isNumber_15
      exact ⟨rfl, by omega⟩
    · refine zi_const hx hb dX1_isNumber_10 ?_
      refine lv_goto (tgt := 15) hx hb dX1_isNumber_11 (by decide) ?_
      refine zzret hx hb hr hlocks hS (Nat.le_of_ble_eq_true rfl) (Nat.le_of_ble_eq_true rfl) (by omega) ?_ dX1_isNumber_15
      exact ⟨rfl, by omega⟩

set_option maxHeartbeats 4000000 in
set_option maxRecDepth 100000 in
theorem c_X1_fullHours (l : Launch) (D : va_G) (cy : Nat → ClassId) (A : Nat → Prop) (ad : Nat → Nat) (ya : Nat → Nat → Int) (yi : Nat → Int) (pr : Nat → Option PS) (H0 : Heap) (v : Int) (hw : zW D A ad (yE cy ad ya yi pr) H0) (h1 : 0 ≤ v ∧ v ≤ 1000) (hg : yB yi) : Met l yX1_fullHours wsX1_fullHours ({ frames := 0, cells := 0, slots := 0, locals := 0 }) (zPc D cy A [.ref (ad 0), .int (iI (v))] H0) (zQi (fun z H1 => H1 = H0 ∧ z = v / yi 6) A) 0 0 A := by
  refine Met.ofW (cc := cX1_fullHours) (maxL := 2) (ret := (some .int)) (by decide) rfl ?_
  intro pg en s mt args below meth c s₁ B hml hv
  obtain ⟨rfl, hH, hE⟩ := hv
  subst hH
  have hx := B.exec
  have hb := B.bytes
  have hr := B.returns
  have hts := atoms_spec (ws := wsX1_fullHours) B.pre
  have hown : s.vm.findClass RX1 = some mt.cls := findClass_of_methodNamed B.named
  have hlocks := B.notSynchronized
  have hinX1 : ∀ w ∈ u_ws RX1 TX1 9, w ∈ wsX1_fullHours := by decide +kernel
  have hS : va_S A s.heap s.heap [] := va_S.rf
  have hl := lv_entry ([.ref (ad 0), .int (iI (v))]) (n := 2) (Nat.le_of_ble_eq_true rfl)
  rw [lg_entry_eq]
  generalize (lg_sl ([.ref (ad 0), .int (iI (v))]) ++ List.replicate (2 - (lg_sl ([.ref (ad 0), .int (iI (v))])).length) Slot.unset).toArray = ls at hl ⊢
  have hl : lv_has ls 2 [(0, .ref (ad 0)), (1, .int (iI (v)))] := hl
  obtain ⟨g1, g2, g3, g4⟩ := id hg
  refine lv_aload_n hx hb dX1_fullHours_0 rfl (lv_at hl 0 rfl) ?_
  refine zget (C := RX1) (T := TX1) (N := 9) hx hb hts hinX1 hown hE hw 0 yE_0 rfl 6 (by decide) (hts (.fieldLink RX1 32 "FormworkYard" "rate" "I") (by decide +kernel)) rfl dX1_fullHours_1 ?_
  refine zf_le (tgt := 16) hx hb dX1_fullHours_4 (by decide) (by first | decide | (constructor <;> omega)) (fun c_4 => ?_) (fun c_4 => ?_)
  · refine zi_const hx hb dX1_fullHours_16 ?_
    have hd := div_b (a := v) (b := yi 6) (by omega) (by omega)
    refine ziret hx hb hr hlocks hS (Nat.le_of_ble_eq_true rfl) (Nat.le_of_ble_eq_true rfl) (by first | decide | (constructor <;> omega)) ?_ dX1_fullHours_17
    exact ⟨rfl, by first | rfl | omega⟩
  · refine lv_iload_n hx hb dX1_fullHours_7 rfl (lv_at hl 1 rfl) ?_
    refine lv_aload_n hx hb dX1_fullHours_8 rfl (lv_at hl 0 rfl) ?_
    refine zget (C := RX1) (T := TX1) (N := 9) hx hb hts hinX1 hown hE hw 0 yE_0 rfl 6 (by decide) (hts (.fieldLink RX1 32 "FormworkYard" "rate" "I") (by decide +kernel)) rfl dX1_fullHours_9 ?_
    refine zi_div hx hb dX1_fullHours_12 (by omega) (by omega) (by omega) (by omega) ?_
    refine lv_goto (tgt := 17) hx hb dX1_fullHours_13 (by decide) ?_
    have hd := div_b (a := v) (b := yi 6) (by omega) (by omega)
    refine ziret hx hb hr hlocks hS (Nat.le_of_ble_eq_true rfl) (Nat.le_of_ble_eq_true rfl) (by first | decide | (constructor <;> omega)) ?_ dX1_fullHours_17
    exact ⟨rfl, by first | rfl | omega⟩

set_option maxHeartbeats 4000000 in
set_option maxRecDepth 100000 in
theorem c_X1_startedHours (l : Launch) (D : va_G) (cy : Nat → ClassId) (A : Nat → Prop) (ad : Nat → Nat) (ya : Nat → Nat → Int) (yi : Nat → Int) (pr : Nat → Option PS) (H0 : Heap) (v : Int) (hw : zW D A ad (yE cy ad ya yi pr) H0) (h1 : 1 ≤ v ∧ v ≤ 200) (hg : yB yi) : Met l yX1_startedHours wsX1_startedHours ({ frames := 1, cells := 0, slots := 0, locals := 21 }) (zPc D cy A [.ref (ad 0), .int (iI (v))] H0) (zQi (fun z H1 => H1 = H0 ∧ z = (v + yi 6 - 1) / yi 6) A) 0 0 A := by
  refine Met.ofW (cc := cX1_startedHours) (maxL := 2) (ret := (some .int)) (by decide) rfl ?_
  intro pg en s mt args below meth c s₁ B hml hv
  obtain ⟨rfl, hH, hE⟩ := hv
  subst hH
  have hx := B.exec
  have hb := B.bytes
  have hr := B.returns
  have hts := atoms_spec (ws := wsX1_startedHours) B.pre
  have hown : s.vm.findClass RX1 = some mt.cls := findClass_of_methodNamed B.named
  have hlocks := B.notSynchronized
  have hinX1 : ∀ w ∈ u_ws RX1 TX1 9, w ∈ wsX1_startedHours := by decide +kernel
  have hS : va_S A s.heap s.heap [] := va_S.rf
  have hl := lv_entry ([.ref (ad 0), .int (iI (v))]) (n := 2) (Nat.le_of_ble_eq_true rfl)
  rw [lg_entry_eq]
  generalize (lg_sl ([.ref (ad 0), .int (iI (v))]) ++ List.replicate (2 - (lg_sl ([.ref (ad 0), .int (iI (v))])).length) Slot.unset).toArray = ls at hl ⊢
  have hl : lv_has ls 2 [(0, .ref (ad 0)), (1, .int (iI (v)))] := hl
  obtain ⟨g1, g2, g3, g4⟩ := id hg
  refine lv_aload_n hx hb dX1_startedHours_0 rfl (lv_at hl 0 rfl) ?_
  refine lv_iload_n hx hb dX1_startedHours_1 rfl (lv_at hl 1 rfl) ?_
  refine lv_aload_n hx hb dX1_startedHours_2 rfl (lv_at hl 0 rfl) ?_
  refine zget (C := RX1) (T := TX1) (N := 9) hx hb hts hinX1 hown hE hw 0 yE_0 rfl 6 (by decide) (hts (.fieldLink RX1 32 "FormworkYard" "rate" "I") (by decide +kernel)) rfl dX1_startedHours_3 ?_
  refine zi_add hx hb dX1_startedHours_6 ?_
  refine zi_const hx hb dX1_startedHours_7 ?_
  refine zi_sub hx hb dX1_startedHours_8 ?_
  refine zcalli (va_runV (As := [.int (iI ((v + (yi 6)) - 1))]) (rest := []) ⟨hx, hb, hml, hown, hts⟩ (c_X1_fullHours l D cy A ad ya yi pr _ ((v + (yi 6)) - 1) hw (by omega) hg) (cwV 1 hts gX1_startedHours_X1_fullHours rfl rfl rfl (by decide +kernel) ⟨(Nat.le_of_ble_eq_true rfl), (Nat.le_of_ble_eq_true rfl)⟩) (zPV hE hS hw (ci := 1) (k0 := 0) rfl yE_0) rfl rfl hl.1 rfl (lv_room (Nat.le_of_ble_eq_true rfl)) dX1_startedHours_9 ⟨(Nat.le_of_ble_eq_true rfl), (Nat.le_of_ble_eq_true rfl)⟩) hS (fun z_9 H1 locs hz_9 hq hz1 hk1 hS => ?_)
  obtain ⟨hqe, hv_9⟩ := hq
  replace hqe := hqe.symm
  subst hqe
  refine ziret hx hb hr hlocks hS (Nat.le_of_ble_eq_true rfl) (Nat.le_of_ble_eq_true rfl) (by first | decide | (constructor <;> omega)) ?_ dX1_startedHours_12
  exact ⟨rfl, hv_9⟩

set_option maxHeartbeats 4000000 in
set_option maxRecDepth 100000 in
theorem c_X1_gainBetween (l : Launch) (D : va_G) (cy : Nat → ClassId) (A : Nat → Prop) (ad : Nat → Nat) (ya : Nat → Nat → Int) (yi : Nat → Int) (pr : Nat → Option PS) (H0 : Heap) (T : Nat → Int) (a b : Int) (hw : zW D A ad (yE cy ad ya yi pr) H0) (h1 : 0 ≤ a ∧ a ≤ 100000) (h2 : zr b) (hG : gnd T ya) (ht : tOK T) : Met l yX1_gainBetween wsX1_gainBetween ({ frames := 1, cells := 0, slots := 0, locals := 21 }) (zPc D cy A [.ref (ad 0), .int (iI (a)), .int (iI (b))] H0) (zQi (fun z H1 => H1 = H0 ∧ z = mat T a b) A) 0 0 A := by
  refine Met.ofW (cc := cX1_gainBetween) (maxL := 4) (ret := (some .int)) (by decide) rfl ?_
  intro pg en s mt args below meth c s₁ B hml hv
  obtain ⟨rfl, hH, hE⟩ := hv
  subst hH
  have hx := B.exec
  have hb := B.bytes
  have hr := B.returns
  have hts := atoms_spec (ws := wsX1_gainBetween) B.pre
  have hown : s.vm.findClass RX1 = some mt.cls := findClass_of_methodNamed B.named
  have hlocks := B.notSynchronized
  have hinX1 : ∀ w ∈ u_ws RX1 TX1 9, w ∈ wsX1_gainBetween := by decide +kernel
  have hS : va_S A s.heap s.heap [] := va_S.rf
  have hl := lv_entry ([.ref (ad 0), .int (iI (a)), .int (iI (b))]) (n := 4) (Nat.le_of_ble_eq_true rfl)
  rw [lg_entry_eq]
  generalize (lg_sl ([.ref (ad 0), .int (iI (a)), .int (iI (b))]) ++ List.replicate (4 - (lg_sl ([.ref (ad 0), .int (iI (a)), .int (iI (b))])).length) Slot.unset).toArray = ls at hl ⊢
  have hl : lv_has ls 4 [(0, .ref (ad 0)), (1, .int (iI (a))), (2, .int (iI (b)))] := hl
  have hmb := mat_b ht a b
  have hmc := mat_cap (T := T) a b h1.1
  refine lv_iload_n hx hb dX1_gainBetween_0 rfl (lv_at hl 2 rfl) ?_
  refine zi_sipush hx hb dX1_gainBetween_1 (by decide) ?_
  refine va_mmin hx hb (hml.trans hl.1.symm) hown (hts (.methodLink RX1 74 Lib.Math.min.name) (by decide +kernel)) (hts (.static Lib.Math.min.name) (by decide +kernel)) (hts (.initialized "java/lang/Math") (by decide +kernel)) (hts (.code Lib.Math.min.name Lib.Math.min.code 2 (some .int)) (by decide +kernel)) (Nat.le_of_ble_eq_true rfl) (Nat.le_of_ble_eq_true rfl) (Nat.le_of_ble_eq_true rfl) (Nat.le_of_ble_eq_true rfl) dX1_gainBetween_4 ?_
  rw [iI_min (a := b) (b := 1000) (by first | decide | (constructor <;> omega)) (by first | decide | (constructor <;> omega))]
  refine zi_top (fun x_4 hx_4 => ?_)
  refine lv_istore_n (lv' := [(3, .int (iI (x_4))), (0, .ref (ad 0)), (1, .int (iI (a))), (2, .int (iI (b)))]) hx hb dX1_gainBetween_7 rfl hl (by decide) rfl (fun ls hl => ?_)
  refine lv_iload_n hx hb dX1_gainBetween_8 rfl (lv_at hl 2 rfl) ?_
  refine zf_lt (tgt := 33) hx hb dX1_gainBetween_9 (by decide) (by first | decide | (constructor <;> omega)) (fun c_9 => ?_) (fun c_9 => ?_)
  · refine zi_const hx hb dX1_gainBetween_33 ?_
    have hz : (0:Int) = mat T a b := by rw [hmc, if_neg (by omega)]
    refine ziret hx hb hr hlocks hS (Nat.le_of_ble_eq_true rfl) (Nat.le_of_ble_eq_true rfl) (by first | decide | (constructor <;> omega)) ?_ dX1_gainBetween_34
    exact ⟨rfl, hz⟩
  · refine lv_iload_n hx hb dX1_gainBetween_12 rfl (lv_at hl 2 rfl) ?_
    refine lv_iload_n hx hb dX1_gainBetween_13 rfl (lv_at hl 0 rfl) ?_
    refine zc_ge (tgt := 33) hx hb dX1_gainBetween_14 (by decide) (by first | decide | (constructor <;> omega)) (by first | decide | (constructor <;> omega)) (fun c_14 => ?_) (fun c_14 => ?_)
    · refine zi_const hx hb dX1_gainBetween_33 ?_
      have hz : (0:Int) = mat T a b := by rw [hmc, if_neg (by omega)]
      refine ziret hx hb hr hlocks hS (Nat.le_of_ble_eq_true rfl) (Nat.le_of_ble_eq_true rfl) (by first | decide | (constructor <;> omega)) ?_ dX1_gainBetween_34
      exact ⟨rfl, hz⟩
    · refine lv_aload_n hx hb dX1_gainBetween_17 rfl (lv_at hl 1 rfl) ?_
      refine zget (C := RX1) (T := TX1) (N := 9) hx hb hts hinX1 hown hE hw 0 yE_0 rfl 1 (by decide) (hts (.fieldLink RX1 13 "FormworkYard" "gained" "[I") (by decide +kernel)) rfl dX1_gainBetween_18 ?_
      refine lv_iload_n hx hb dX1_gainBetween_21 rfl (lv_at hl 0 rfl) ?_
      refine ziald hx hb hE hw 2 yE_2 (x_4).toNat (by omega) (by omega) (by omega) dX1_gainBetween_22 ?_
      refine zi_top (fun v_22 hv_22 => ?_)
      rw [hG _ (by omega)] at hv_22
      refine lv_aload_n hx hb dX1_gainBetween_23 rfl (lv_at hl 1 rfl) ?_
      refine zget (C := RX1) (T := TX1) (N := 9) hx hb hts hinX1 hown hE hw 0 yE_0 rfl 1 (by decide) (hts (.fieldLink RX1 13 "FormworkYard" "gained" "[I") (by decide +kernel)) rfl dX1_gainBetween_24 ?_
      refine lv_iload_n hx hb dX1_gainBetween_27 rfl (lv_at hl 2 rfl) ?_
      refine ziald hx hb hE hw 2 yE_2 (a).toNat (by omega) (by omega) (by omega) dX1_gainBetween_28 ?_
      refine zi_top (fun v_28 hv_28 => ?_)
      rw [hG _ (by omega)] at hv_28
      refine zi_sub hx hb dX1_gainBetween_29 ?_
      refine lv_goto (tgt := 34) hx hb dX1_gainBetween_30 (by decide) ?_
      have hz : v_22 - v_28 = mat T a b := by rw [hmc, if_pos (by omega), hv_22, hv_28, hx_4]
      refine ziret hx hb hr hlocks hS (Nat.le_of_ble_eq_true rfl) (Nat.le_of_ble_eq_true rfl) (by first | decide | (constructor <;> omega)) ?_ dX1_gainBetween_34
      exact ⟨rfl, hz⟩

set_option maxHeartbeats 4000000 in
set_option maxRecDepth 100000 in
theorem c_X1_strengthAt (l : Launch) (D : va_G) (cy : Nat → ClassId) (A : Nat → Prop) (ad : Nat → Nat) (H0 : Heap) (v : Int) (h1 : 0 ≤ v ∧ v ≤ 1000000) : Met l yX1_strengthAt wsX1_strengthAt ({ frames := 0, cells := 0, slots := 0, locals := 0 }) (zPc D cy A [.int (iI (v))] H0) (zQi (fun z H1 => H1 = H0 ∧ z = strg v) A) 0 0 A := by
  refine Met.ofW (cc := cX1_strengthAt) (maxL := 4) (ret := (some .int)) (by decide) rfl ?_
  intro pg en s mt args below meth c s₁ B hml hv
  obtain ⟨rfl, hH, hE⟩ := hv
  subst hH
  have hx := B.exec
  have hb := B.bytes
  have hr := B.returns
  have hts := atoms_spec (ws := wsX1_strengthAt) B.pre
  have hown : s.vm.findClass RX1 = some mt.cls := findClass_of_methodNamed B.named
  have hlocks := B.notSynchronized
  have hS : va_S A s.heap s.heap [] := va_S.rf
  have hl := lv_entry ([.int (iI (v))]) (n := 4) (Nat.le_of_ble_eq_true rfl)
  rw [lg_entry_eq]
  generalize (lg_sl ([.int (iI (v))]) ++ List.replicate (4 - (lg_sl ([.int (iI (v))])).length) Slot.unset).toArray = ls at hl ⊢
  have hl : lv_has ls 4 [(0, .int (iI (v)))] := hl
  refine zi_const hx hb dX1_strengthAt_0 ?_
  refine lv_istore_n (lv' := [(1, .int (iI (1))), (0, .int (iI (v)))]) hx hb dX1_strengthAt_1 rfl hl (by decide) rfl (fun ls hl => ?_)
  refine lv_iload_n hx hb dX1_strengthAt_2 rfl (lv_at hl 0 rfl) ?_
  obtain ⟨tS, hZS, hTS⟩ := hE.2.2.1
  refine va_gets hx hb hZS hS hown (hts (.fieldLink RX1 193 "FormworkYard" "STEPS" "[I") (by decide +kernel)) (fun _ h => h) dX1_strengthAt_3 ?_
  refine va_tlen hx hb hTS hS (v := iI 5) (by decide) dX1_strengthAt_6 ?_
  refine zc_ge (tgt := 61) hx hb dX1_strengthAt_7 (by decide) (by first | decide | (constructor <;> omega)) (by first | decide | (constructor <;> omega)) (fun c_7 => ?_) (fun c_7 => ?_)
  · exfalso; omega
  · refine va_gets hx hb hZS hS hown (hts (.fieldLink RX1 193 "FormworkYard" "STEPS" "[I") (by decide +kernel)) (fun _ h => h) dX1_strengthAt_10 ?_
    refine lv_iload_n hx hb dX1_strengthAt_13 rfl (lv_at hl 0 rfl) ?_
    refine zi_const hx hb dX1_strengthAt_14 ?_
    refine zi_sub hx hb dX1_strengthAt_15 ?_
    refine zi_top (fun y_1 hy_1 => ?_)
    replace hy_1 : y_1 = (0) := hy_1
    subst hy_1
    refine va_ti hx hb hTS hS (iI_in (by decide) (by decide) (by decide)) (v := .int (iI 0)) (by rw [iI_c ⟨by decide, by decide⟩]; rfl) dX1_strengthAt_16 ?_
    refine lv_istore_n (lv' := [(2, .int (iI (0))), (1, .int (iI (1))), (0, .int (iI (v)))]) hx hb dX1_strengthAt_17 rfl hl (by decide) rfl (fun ls hl => ?_)
    refine va_gets hx hb hZS hS hown (hts (.fieldLink RX1 193 "FormworkYard" "STEPS" "[I") (by decide +kernel)) (fun _ h => h) dX1_strengthAt_18 ?_
    refine lv_iload_n hx hb dX1_strengthAt_21 rfl (lv_at hl 1 rfl) ?_
    refine va_ti hx hb hTS hS (iI_in (by decide) (by decide) (by decide)) (v := .int (iI 500)) (by rw [iI_c ⟨by decide, by decide⟩]; rfl) dX1_strengthAt_22 ?_
    refine lv_iload_n hx hb dX1_strengthAt_23 rfl (lv_at hl 0 rfl) ?_
    refine zi_sub hx hb dX1_strengthAt_24 ?_
    refine zi_top (fun y_2 hy_2 => ?_)
    replace hy_2 : y_2 = (500) := hy_2
    subst hy_2
    refine lv_istore_n (lv' := [(3, .int (iI (500))), (2, .int (iI (0))), (1, .int (iI (1))), (0, .int (iI (v)))]) hx hb dX1_strengthAt_25 rfl hl (by decide) rfl (fun ls hl => ?_)
    refine lv_iload_n hx hb dX1_strengthAt_26 rfl (lv_at hl 3 rfl) ?_
    refine va_gets hx hb hZS hS hown (hts (.fieldLink RX1 193 "FormworkYard" "STEPS" "[I") (by decide +kernel)) (fun _ h => h) dX1_strengthAt_27 ?_
    refine lv_iload_n hx hb dX1_strengthAt_30 rfl (lv_at hl 2 rfl) ?_
    refine va_ti hx hb hTS hS (iI_in (by decide) (by decide) (by decide)) (v := .int (iI 500)) (by rw [iI_c ⟨by decide, by decide⟩]; rfl) dX1_strengthAt_31 ?_
    refine zc_ge (tgt := 55) hx hb dX1_strengthAt_32 (by decide) (by first | decide | (constructor <;> omega)) (by first | decide | (constructor <;> omega)) (fun c_32 => ?_) (fun c_32 => ?_)
    · refine zi_iinc (lv' := [(1, .int (iI (1 + 1))), (3, .int (iI (500))), (2, .int (iI (0))), (0, .int (iI (v)))]) hx hb dX1_strengthAt_55 hl (k := 2) rfl (by decide) rfl (fun ls hl => ?_)
      replace hl : lv_has ls 4 [(1, .int (iI (2))), (3, .int (iI (500))), (2, .int (iI (0))), (0, .int (iI (v)))] := hl
      refine lv_goto (tgt := 2) hx hb dX1_strengthAt_58 (by decide) ?_
      refine lv_iload_n hx hb dX1_strengthAt_2 rfl (lv_at hl 0 rfl) ?_
      refine va_gets hx hb hZS hS hown (hts (.fieldLink RX1 193 "FormworkYard" "STEPS" "[I") (by decide +kernel)) (fun _ h => h) dX1_strengthAt_3 ?_
      refine va_tlen hx hb hTS hS (v := iI 5) (by decide) dX1_strengthAt_6 ?_
      refine zc_ge (tgt := 61) hx hb dX1_strengthAt_7 (by decide) (by first | decide | (constructor <;> omega)) (by first | decide | (constructor <;> omega)) (fun c_7 => ?_) (fun c_7 => ?_)
      · exfalso; omega
      · refine va_gets hx hb hZS hS hown (hts (.fieldLink RX1 193 "FormworkYard" "STEPS" "[I") (by decide +kernel)) (fun _ h => h) dX1_strengthAt_10 ?_
        refine lv_iload_n hx hb dX1_strengthAt_13 rfl (lv_at hl 0 rfl) ?_
        refine zi_const hx hb dX1_strengthAt_14 ?_
        refine zi_sub hx hb dX1_strengthAt_15 ?_
        refine zi_top (fun y_3 hy_3 => ?_)
        replace hy_3 : y_3 = (1) := hy_3
        subst hy_3
        refine va_ti hx hb hTS hS (iI_in (by decide) (by decide) (by decide)) (v := .int (iI 500)) (by rw [iI_c ⟨by decide, by decide⟩]; rfl) dX1_strengthAt_16 ?_
        refine lv_istore_n (lv' := [(2, .int (iI (500))), (1, .int (iI (2))), (3, .int (iI (500))), (0, .int (iI (v)))]) hx hb dX1_strengthAt_17 rfl hl (by decide) rfl (fun ls hl => ?_)
        refine va_gets hx hb hZS hS hown (hts (.fieldLink RX1 193 "FormworkYard" "STEPS" "[I") (by decide +kernel)) (fun _ h => h) dX1_strengthAt_18 ?_
        refine lv_iload_n hx hb dX1_strengthAt_21 rfl (lv_at hl 1 rfl) ?_
        refine va_ti hx hb hTS hS (iI_in (by decide) (by decide) (by decide)) (v := .int (iI 1200)) (by rw [iI_c ⟨by decide, by decide⟩]; rfl) dX1_strengthAt_22 ?_
        refine lv_iload_n hx hb dX1_strengthAt_23 rfl (lv_at hl 0 rfl) ?_
        refine zi_sub hx hb dX1_strengthAt_24 ?_
        refine zi_top (fun y_4 hy_4 => ?_)
        replace hy_4 : y_4 = (700) := hy_4
        subst hy_4
        refine lv_istore_n (lv' := [(3, .int (iI (700))), (2, .int (iI (500))), (1, .int (iI (2))), (0, .int (iI (v)))]) hx hb dX1_strengthAt_25 rfl hl (by decide) rfl (fun ls hl => ?_)
        refine lv_iload_n hx hb dX1_strengthAt_26 rfl (lv_at hl 3 rfl) ?_
        refine va_gets hx hb hZS hS hown (hts (.fieldLink RX1 193 "FormworkYard" "STEPS" "[I") (by decide +kernel)) (fun _ h => h) dX1_strengthAt_27 ?_
        refine lv_iload_n hx hb dX1_strengthAt_30 rfl (lv_at hl 2 rfl) ?_
        refine va_ti hx hb hTS hS (iI_in (by decide) (by decide) (by decide)) (v := .int (iI 1200)) (by rw [iI_c ⟨by decide, by decide⟩]; rfl) dX1_strengthAt_31 ?_
        refine zc_ge (tgt := 55) hx hb dX1_strengthAt_32 (by decide) (by first | decide | (constructor <;> omega)) (by first | decide | (constructor <;> omega)) (fun c_32 => ?_) (fun c_32 => ?_)
        · refine zi_iinc (lv' := [(1, .int (iI (2 + 1))), (3, .int (iI (700))), (2, .int (iI (500))), (0, .int (iI (v)))]) hx hb dX1_strengthAt_55 hl (k := 2) rfl (by decide) rfl (fun ls hl => ?_)
          replace hl : lv_has ls 4 [(1, .int (iI (3))), (3, .int (iI (700))), (2, .int (iI (500))), (0, .int (iI (v)))] := hl
          refine lv_goto (tgt := 2) hx hb dX1_strengthAt_58 (by decide) ?_
          refine lv_iload_n hx hb dX1_strengthAt_2 rfl (lv_at hl 0 rfl) ?_
          refine va_gets hx hb hZS hS hown (hts (.fieldLink RX1 193 "FormworkYard" "STEPS" "[I") (by decide +kernel)) (fun _ h => h) dX1_strengthAt_3 ?_
          refine va_tlen hx hb hTS hS (v := iI 5) (by decide) dX1_strengthAt_6 ?_
          refine zc_ge (tgt := 61) hx hb dX1_strengthAt_7 (by decide) (by first | decide | (constructor <;> omega)) (by first | decide | (constructor <;> omega)) (fun c_7 => ?_) (fun c_7 => ?_)
          · exfalso; omega
          · refine va_gets hx hb hZS hS hown (hts (.fieldLink RX1 193 "FormworkYard" "STEPS" "[I") (by decide +kernel)) (fun _ h => h) dX1_strengthAt_10 ?_
            refine lv_iload_n hx hb dX1_strengthAt_13 rfl (lv_at hl 0 rfl) ?_
            refine zi_const hx hb dX1_strengthAt_14 ?_
            refine zi_sub hx hb dX1_strengthAt_15 ?_
            refine zi_top (fun y_5 hy_5 => ?_)
            replace hy_5 : y_5 = (2) := hy_5
            subst hy_5
            refine va_ti hx hb hTS hS (iI_in (by decide) (by decide) (by decide)) (v := .int (iI 1200)) (by rw [iI_c ⟨by decide, by decide⟩]; rfl) dX1_strengthAt_16 ?_
            refine lv_istore_n (lv' := [(2, .int (iI (1200))), (1, .int (iI (3))), (3, .int (iI (700))), (0, .int (iI (v)))]) hx hb dX1_strengthAt_17 rfl hl (by decide) rfl (fun ls hl => ?_)
            refine va_gets hx hb hZS hS hown (hts (.fieldLink RX1 193 "FormworkYard" "STEPS" "[I") (by decide +kernel)) (fun _ h => h) dX1_strengthAt_18 ?_
            refine lv_iload_n hx hb dX1_strengthAt_21 rfl (lv_at hl 1 rfl) ?_
            refine va_ti hx hb hTS hS (iI_in (by decide) (by decide) (by decide)) (v := .int (iI 2500)) (by rw [iI_c ⟨by decide, by decide⟩]; rfl) dX1_strengthAt_22 ?_
            refine lv_iload_n hx hb dX1_strengthAt_23 rfl (lv_at hl 0 rfl) ?_
            refine zi_sub hx hb dX1_strengthAt_24 ?_
            refine zi_top (fun y_6 hy_6 => ?_)
            replace hy_6 : y_6 = (1300) := hy_6
            subst hy_6
            refine lv_istore_n (lv' := [(3, .int (iI (1300))), (2, .int (iI (1200))), (1, .int (iI (3))), (0, .int (iI (v)))]) hx hb dX1_strengthAt_25 rfl hl (by decide) rfl (fun ls hl => ?_)
            refine lv_iload_n hx hb dX1_strengthAt_26 rfl (lv_at hl 3 rfl) ?_
            refine va_gets hx hb hZS hS hown (hts (.fieldLink RX1 193 "FormworkYard" "STEPS" "[I") (by decide +kernel)) (fun _ h => h) dX1_strengthAt_27 ?_
            refine lv_iload_n hx hb dX1_strengthAt_30 rfl (lv_at hl 2 rfl) ?_
            refine va_ti hx hb hTS hS (iI_in (by decide) (by decide) (by decide)) (v := .int (iI 2500)) (by rw [iI_c ⟨by decide, by decide⟩]; rfl) dX1_strengthAt_31 ?_
            refine zc_ge (tgt := 55) hx hb dX1_strengthAt_32 (by decide) (by first | decide | (constructor <;> omega)) (by first | decide | (constructor <;> omega)) (fun c_32 => ?_) (fun c_32 => ?_)
            · refine zi_iinc (lv' := [(1, .int (iI (3 + 1))), (3, .int (iI (1300))), (2, .int (iI (1200))), (0, .int (iI (v)))]) hx hb dX1_strengthAt_55 hl (k := 2) rfl (by decide) rfl (fun ls hl => ?_)
              replace hl : lv_has ls 4 [(1, .int (iI (4))), (3, .int (iI (1300))), (2, .int (iI (1200))), (0, .int (iI (v)))] := hl
              refine lv_goto (tgt := 2) hx hb dX1_strengthAt_58 (by decide) ?_
              refine lv_iload_n hx hb dX1_strengthAt_2 rfl (lv_at hl 0 rfl) ?_
              refine va_gets hx hb hZS hS hown (hts (.fieldLink RX1 193 "FormworkYard" "STEPS" "[I") (by decide +kernel)) (fun _ h => h) dX1_strengthAt_3 ?_
              refine va_tlen hx hb hTS hS (v := iI 5) (by decide) dX1_strengthAt_6 ?_
              refine zc_ge (tgt := 61) hx hb dX1_strengthAt_7 (by decide) (by first | decide | (constructor <;> omega)) (by first | decide | (constructor <;> omega)) (fun c_7 => ?_) (fun c_7 => ?_)
              · exfalso; omega
              · refine va_gets hx hb hZS hS hown (hts (.fieldLink RX1 193 "FormworkYard" "STEPS" "[I") (by decide +kernel)) (fun _ h => h) dX1_strengthAt_10 ?_
                refine lv_iload_n hx hb dX1_strengthAt_13 rfl (lv_at hl 0 rfl) ?_
                refine zi_const hx hb dX1_strengthAt_14 ?_
                refine zi_sub hx hb dX1_strengthAt_15 ?_
                refine zi_top (fun y_7 hy_7 => ?_)
                replace hy_7 : y_7 = (3) := hy_7
                subst hy_7
                refine va_ti hx hb hTS hS (iI_in (by decide) (by decide) (by decide)) (v := .int (iI 2500)) (by rw [iI_c ⟨by decide, by decide⟩]; rfl) dX1_strengthAt_16 ?_
                refine lv_istore_n (lv' := [(2, .int (iI (2500))), (1, .int (iI (4))), (3, .int (iI (1300))), (0, .int (iI (v)))]) hx hb dX1_strengthAt_17 rfl hl (by decide) rfl (fun ls hl => ?_)
                refine va_gets hx hb hZS hS hown (hts (.fieldLink RX1 193 "FormworkYard" "STEPS" "[I") (by decide +kernel)) (fun _ h => h) dX1_strengthAt_18 ?_
                refine lv_iload_n hx hb dX1_strengthAt_21 rfl (lv_at hl 1 rfl) ?_
                refine va_ti hx hb hTS hS (iI_in (by decide) (by decide) (by decide)) (v := .int (iI 5000)) (by rw [iI_c ⟨by decide, by decide⟩]; rfl) dX1_strengthAt_22 ?_
                refine lv_iload_n hx hb dX1_strengthAt_23 rfl (lv_at hl 0 rfl) ?_
                refine zi_sub hx hb dX1_strengthAt_24 ?_
                refine zi_top (fun y_8 hy_8 => ?_)
                replace hy_8 : y_8 = (2500) := hy_8
                subst hy_8
                refine lv_istore_n (lv' := [(3, .int (iI (2500))), (2, .int (iI (2500))), (1, .int (iI (4))), (0, .int (iI (v)))]) hx hb dX1_strengthAt_25 rfl hl (by decide) rfl (fun ls hl => ?_)
                refine lv_iload_n hx hb dX1_strengthAt_26 rfl (lv_at hl 3 rfl) ?_
                refine va_gets hx hb hZS hS hown (hts (.fieldLink RX1 193 "FormworkYard" "STEPS" "[I") (by decide +kernel)) (fun _ h => h) dX1_strengthAt_27 ?_
                refine lv_iload_n hx hb dX1_strengthAt_30 rfl (lv_at hl 2 rfl) ?_
                refine va_ti hx hb hTS hS (iI_in (by decide) (by decide) (by decide)) (v := .int (iI 5000)) (by rw [iI_c ⟨by decide, by decide⟩]; rfl) dX1_strengthAt_31 ?_
                refine zc_ge (tgt := 55) hx hb dX1_strengthAt_32 (by decide) (by first | decide | (constructor <;> omega)) (by first | decide | (constructor <;> omega)) (fun c_32 => ?_) (fun c_32 => ?_)
                · refine zi_iinc (lv' := [(1, .int (iI (4 + 1))), (3, .int (iI (2500))), (2, .int (iI (2500))), (0, .int (iI (v)))]) hx hb dX1_strengthAt_55 hl (k := 2) rfl (by decide) rfl (fun ls hl => ?_)
                  replace hl : lv_has ls 4 [(1, .int (iI (5))), (3, .int (iI (2500))), (2, .int (iI (2500))), (0, .int (iI (v)))] := hl
                  refine lv_goto (tgt := 2) hx hb dX1_strengthAt_58 (by decide) ?_
                  refine lv_iload_n hx hb dX1_strengthAt_2 rfl (lv_at hl 0 rfl) ?_
                  refine va_gets hx hb hZS hS hown (hts (.fieldLink RX1 193 "FormworkYard" "STEPS" "[I") (by decide +kernel)) (fun _ h => h) dX1_strengthAt_3 ?_
                  refine va_tlen hx hb hTS hS (v := iI 5) (by decide) dX1_strengthAt_6 ?_
                  refine zc_ge (tgt := 61) hx hb dX1_strengthAt_7 (by decide) (by first | decide | (constructor <;> omega)) (by first | decide | (constructor <;> omega)) (fun c_7 => ?_) (fun c_7 => ?_)
                  · refine zi_bipush hx hb dX1_strengthAt_61 (by decide) ?_
                    refine ziret hx hb hr hlocks hS (Nat.le_of_ble_eq_true rfl) (Nat.le_of_ble_eq_true rfl) (by first | decide | (constructor <;> omega)) ?_ dX1_strengthAt_63
                    exact ⟨rfl, by unfold strg; rw [if_pos (by omega)]⟩
                  · exfalso; omega
                · refine lv_iload_n hx hb dX1_strengthAt_35 rfl (lv_at hl 0 rfl) ?_
                  refine zf_le (tgt := 55) hx hb dX1_strengthAt_36 (by decide) (by first | decide | (constructor <;> omega)) (fun c_36 => ?_) (fun c_36 => ?_)
                  · exfalso; omega
                  · refine zi_bipush hx hb dX1_strengthAt_39 (by decide) ?_
                    refine lv_iload_n hx hb dX1_strengthAt_41 rfl (lv_at hl 2 rfl) ?_
                    refine zi_const hx hb dX1_strengthAt_42 ?_
                    refine zi_sub hx hb dX1_strengthAt_43 ?_
                    refine zi_top (fun y_9 hy_9 => ?_)
                    replace hy_9 : y_9 = (3) := hy_9
                    subst hy_9
                    refine zi_mul hx hb dX1_strengthAt_44 ?_
                    refine zi_top (fun y_10 hy_10 => ?_)
                    replace hy_10 : y_10 = (75) := hy_10
                    subst hy_10
                    refine zi_bipush hx hb dX1_strengthAt_45 (by decide) ?_
                    refine lv_iload_n hx hb dX1_strengthAt_47 rfl (lv_at hl 3 rfl) ?_
                    refine lv_iload_n hx hb dX1_strengthAt_48 rfl (lv_at hl 1 rfl) ?_
                    refine zi_sub hx hb dX1_strengthAt_49 ?_
                    refine zi_mul hx hb dX1_strengthAt_50 ?_
                    refine lv_iload_n hx hb dX1_strengthAt_51 rfl (lv_at hl 0 rfl) ?_
                    refine zi_div hx hb dX1_strengthAt_52 (by omega) (by omega) (by omega) (by omega) ?_
                    refine zi_add hx hb dX1_strengthAt_53 ?_
                    have hz : 75 + ((25 * (v - 2500)) / 2500) = strg v := by unfold strg; (repeat' split) <;> omega
                    have hzb := strg_b h1.1
                    rw [hz]
                    refine ziret hx hb hr hlocks hS (Nat.le_of_ble_eq_true rfl) (Nat.le_of_ble_eq_true rfl) (by first | decide | (constructor <;> omega)) ?_ dX1_strengthAt_54
                    exact ⟨rfl, rfl⟩
            · refine lv_iload_n hx hb dX1_strengthAt_35 rfl (lv_at hl 0 rfl) ?_
              refine zf_le (tgt := 55) hx hb dX1_strengthAt_36 (by decide) (by first | decide | (constructor <;> omega)) (fun c_36 => ?_) (fun c_36 => ?_)
              · exfalso; omega
              · refine zi_bipush hx hb dX1_strengthAt_39 (by decide) ?_
                refine lv_iload_n hx hb dX1_strengthAt_41 rfl (lv_at hl 2 rfl) ?_
                refine zi_const hx hb dX1_strengthAt_42 ?_
                refine zi_sub hx hb dX1_strengthAt_43 ?_
                refine zi_top (fun y_11 hy_11 => ?_)
                replace hy_11 : y_11 = (2) := hy_11
                subst hy_11
                refine zi_mul hx hb dX1_strengthAt_44 ?_
                refine zi_top (fun y_12 hy_12 => ?_)
                replace hy_12 : y_12 = (50) := hy_12
                subst hy_12
                refine zi_bipush hx hb dX1_strengthAt_45 (by decide) ?_
                refine lv_iload_n hx hb dX1_strengthAt_47 rfl (lv_at hl 3 rfl) ?_
                refine lv_iload_n hx hb dX1_strengthAt_48 rfl (lv_at hl 1 rfl) ?_
                refine zi_sub hx hb dX1_strengthAt_49 ?_
                refine zi_mul hx hb dX1_strengthAt_50 ?_
                refine lv_iload_n hx hb dX1_strengthAt_51 rfl (lv_at hl 0 rfl) ?_
                refine zi_div hx hb dX1_strengthAt_52 (by omega) (by omega) (by omega) (by omega) ?_
                refine zi_add hx hb dX1_strengthAt_53 ?_
                have hz : 50 + ((25 * (v - 1200)) / 1300) = strg v := by unfold strg; (repeat' split) <;> omega
                have hzb := strg_b h1.1
                rw [hz]
                refine ziret hx hb hr hlocks hS (Nat.le_of_ble_eq_true rfl) (Nat.le_of_ble_eq_true rfl) (by first | decide | (constructor <;> omega)) ?_ dX1_strengthAt_54
                exact ⟨rfl, rfl⟩
        · refine lv_iload_n hx hb dX1_strengthAt_35 rfl (lv_at hl 0 rfl) ?_
          refine zf_le (tgt := 55) hx hb dX1_strengthAt_36 (by decide) (by first | decide | (constructor <;> omega)) (fun c_36 => ?_) (fun c_36 => ?_)
          · exfalso; omega
          · refine zi_bipush hx hb dX1_strengthAt_39 (by decide) ?_
            refine lv_iload_n hx hb dX1_strengthAt_41 rfl (lv_at hl 2 rfl) ?_
            refine zi_const hx hb dX1_strengthAt_42 ?_
            refine zi_sub hx hb dX1_strengthAt_43 ?_
            refine zi_top (fun y_13 hy_13 => ?_)
            replace hy_13 : y_13 = (1) := hy_13
            subst hy_13
            refine zi_mul hx hb dX1_strengthAt_44 ?_
            refine zi_top (fun y_14 hy_14 => ?_)
            replace hy_14 : y_14 = (25) := hy_14
            subst hy_14
            refine zi_bipush hx hb dX1_strengthAt_45 (by decide) ?_
            refine lv_iload_n hx hb dX1_strengthAt_47 rfl (lv_at hl 3 rfl) ?_
            refine lv_iload_n hx hb dX1_strengthAt_48 rfl (lv_at hl 1 rfl) ?_
            refine zi_sub hx hb dX1_strengthAt_49 ?_
            refine zi_mul hx hb dX1_strengthAt_50 ?_
            refine lv_iload_n hx hb dX1_strengthAt_51 rfl (lv_at hl 0 rfl) ?_
            refine zi_div hx hb dX1_strengthAt_52 (by omega) (by omega) (by omega) (by omega) ?_
            refine zi_add hx hb dX1_strengthAt_53 ?_
            have hz : 25 + ((25 * (v - 500)) / 700) = strg v := by unfold strg; (repeat' split) <;> omega
            have hzb := strg_b h1.1
            rw [hz]
            refine ziret hx hb hr hlocks hS (Nat.le_of_ble_eq_true rfl) (Nat.le_of_ble_eq_true rfl) (by first | decide | (constructor <;> omega)) ?_ dX1_strengthAt_54
            exact ⟨rfl, rfl⟩
    · refine lv_iload_n hx hb dX1_strengthAt_35 rfl (lv_at hl 0 rfl) ?_
      refine zf_le (tgt := 55) hx hb dX1_strengthAt_36 (by decide) (by first | decide | (constructor <;> omega)) (fun c_36 => ?_) (fun c_36 => ?_)
      · exfalso; omega
      · refine zi_bipush hx hb dX1_strengthAt_39 (by decide) ?_
        refine lv_iload_n hx hb dX1_strengthAt_41 rfl (lv_at hl 2 rfl) ?_
        refine zi_const hx hb dX1_strengthAt_42 ?_
        refine zi_sub hx hb dX1_strengthAt_43 ?_
        refine zi_top (fun y_15 hy_15 => ?_)
        replace hy_15 : y_15 = (0) := hy_15
        subst hy_15
        refine zi_mul hx hb dX1_strengthAt_44 ?_
        refine zi_top (fun y_16 hy_16 => ?_)
        replace hy_16 : y_16 = (0) := hy_16
        subst hy_16
        refine zi_bipush hx hb dX1_strengthAt_45 (by decide) ?_
        refine lv_iload_n hx hb dX1_strengthAt_47 rfl (lv_at hl 3 rfl) ?_
        refine lv_iload_n hx hb dX1_strengthAt_48 rfl (lv_at hl 1 rfl) ?_
        refine zi_sub hx hb dX1_strengthAt_49 ?_
        refine zi_mul hx hb dX1_strengthAt_50 ?_
        refine lv_iload_n hx hb dX1_strengthAt_51 rfl (lv_at hl 0 rfl) ?_
        refine zi_div hx hb dX1_strengthAt_52 (by omega) (by omega) (by omega) (by omega) ?_
        refine zi_add hx hb dX1_strengthAt_53 ?_
        have hz : 0 + ((25 * (v - 0)) / 500) = strg v := by unfold strg; (repeat' split) <;> omega
        have hzb := strg_b h1.1
        rw [hz]
        refine ziret hx hb hr hlocks hS (Nat.le_of_ble_eq_true rfl) (Nat.le_of_ble_eq_true rfl) (by first | decide | (constructor <;> omega)) ?_ dX1_strengthAt_54
        exact ⟨rfl, rfl⟩

set_option maxHeartbeats 4000000 in
set_option maxRecDepth 100000 in
theorem c_X1_standHour (l : Launch) (D : va_G) (cy : Nat → ClassId) (A : Nat → Prop) (ad : Nat → Nat) (ya : Nat → Nat → Int) (yi : Nat → Int) (pr : Nat → Option PS) (H0 : Heap) (v : Int) (hw : zW D A ad (yE cy ad ya yi pr) H0) (h1 : 0 ≤ v ∧ v ≤ 900) (hg : yB yi) : Met l yX1_standHour wsX1_standHour ({ frames := 1, cells := 0, slots := 0, locals := 21 }) (zPc D cy A [.ref (ad 0), .int (iI (v))] H0) (zQi (fun z H1 => H1 = H0 ∧ z = standS (yi 7) v) A) 0 0 A := by
  refine Met.ofW (cc := cX1_standHour) (maxL := 2) (ret := (some .int)) (by decide) rfl ?_
  intro pg en s mt args below meth c s₁ B hml hv
  obtain ⟨rfl, hH, hE⟩ := hv
  subst hH
  have hx := B.exec
  have hb := B.bytes
  have hr := B.returns
  have hts := atoms_spec (ws := wsX1_standHour) B.pre
  have hown : s.vm.findClass RX1 = some mt.cls := findClass_of_methodNamed B.named
  have hlocks := B.notSynchronized
  have hinX1 : ∀ w ∈ u_ws RX1 TX1 9, w ∈ wsX1_standHour := by decide +kernel
  have hS : va_S A s.heap s.heap [] := va_S.rf
  have hl := lv_entry ([.ref (ad 0), .int (iI (v))]) (n := 2) (Nat.le_of_ble_eq_true rfl)
  rw [lg_entry_eq]
  generalize (lg_sl ([.ref (ad 0), .int (iI (v))]) ++ List.replicate (2 - (lg_sl ([.ref (ad 0), .int (iI (v))])).length) Slot.unset).toArray = ls at hl ⊢
  have hl : lv_has ls 2 [(0, .ref (ad 0)), (1, .int (iI (v)))] := hl
  obtain ⟨g1, g2, g3, g4⟩ := id hg
  refine zi_const hx hb dX1_standHour_0 ?_
  refine lv_iload_n hx hb dX1_standHour_1 rfl (lv_at hl 1 rfl) ?_
  refine lv_aload_n hx hb dX1_standHour_2 rfl (lv_at hl 0 rfl) ?_
  refine zget (C := RX1) (T := TX1) (N := 9) hx hb hts hinX1 hown hE hw 0 yE_0 rfl 7 (by decide) (hts (.fieldLink RX1 35 "FormworkYard" "setUpHours" "I") (by decide +kernel)) rfl dX1_standHour_3 ?_
  refine zi_sub hx hb dX1_standHour_6 ?_
  refine va_mmax hx hb (hml.trans hl.1.symm) hown (hts (.methodLink RX1 144 Lib.Math.max.name) (by decide +kernel)) (hts (.static Lib.Math.max.name) (by decide +kernel)) (hts (.initialized "java/lang/Math") (by decide +kernel)) (hts (.code Lib.Math.max.name Lib.Math.max.code 2 (some .int)) (by decide +kernel)) (Nat.le_of_ble_eq_true rfl) (Nat.le_of_ble_eq_true rfl) (Nat.le_of_ble_eq_true rfl) (Nat.le_of_ble_eq_true rfl) dX1_standHour_7 ?_
  rw [iI_max (a := 0) (b := v - (yi 7)) (by first | decide | (constructor <;> omega)) (by first | decide | (constructor <;> omega))]
  refine zi_top (fun x_7 hx_7 => ?_)
  refine ziret hx hb hr hlocks hS (Nat.le_of_ble_eq_true rfl) (Nat.le_of_ble_eq_true rfl) (by first | decide | (constructor <;> omega)) ?_ dX1_standHour_10
  exact ⟨rfl, by unfold standS; split <;> omega⟩

set_option maxHeartbeats 4000000 in
set_option maxRecDepth 100000 in
theorem c_X1_releaseHour (l : Launch) (D : va_G) (cy : Nat → ClassId) (A : Nat → Prop) (ad : Nat → Nat) (ya : Nat → Nat → Int) (yi : Nat → Int) (pr : Nat → Option PS) (H0 : Heap) (v k : Int) (hw : zW D A ad (yE cy ad ya yi pr) H0) (h1 : 0 ≤ k ∧ v = (if k < 1000 then k else -1)) (hg : yB yi) : Met l yX1_releaseHour wsX1_releaseHour ({ frames := 1, cells := 0, slots := 0, locals := 21 }) (zPc D cy A [.ref (ad 0), .int (iI (v))] H0) (zQi (fun z H1 => H1 = H0 ∧ z = min 1000 (freeS (yi 8) k)) A) 0 0 A := by
  refine Met.ofW (cc := cX1_releaseHour) (maxL := 2) (ret := (some .int)) (by decide) rfl ?_
  intro pg en s mt args below meth c s₁ B hml hv
  obtain ⟨rfl, hH, hE⟩ := hv
  subst hH
  have hx := B.exec
  have hb := B.bytes
  have hr := B.returns
  have hts := atoms_spec (ws := wsX1_releaseHour) B.pre
  have hown : s.vm.findClass RX1 = some mt.cls := findClass_of_methodNamed B.named
  have hlocks := B.notSynchronized
  have hinX1 : ∀ w ∈ u_ws RX1 TX1 9, w ∈ wsX1_releaseHour := by decide +kernel
  have hS : va_S A s.heap s.heap [] := va_S.rf
  have hl := lv_entry ([.ref (ad 0), .int (iI (v))]) (n := 2) (Nat.le_of_ble_eq_true rfl)
  rw [lg_entry_eq]
  generalize (lg_sl ([.ref (ad 0), .int (iI (v))]) ++ List.replicate (2 - (lg_sl ([.ref (ad 0), .int (iI (v))])).length) Slot.unset).toArray = ls at hl ⊢
  have hl : lv_has ls 2 [(0, .ref (ad 0)), (1, .int (iI (v)))] := hl
  obtain ⟨g1, g2, g3, g4⟩ := id hg
  have hv9 : (k < 1000 ∧ v = k) ∨ (1000 ≤ k ∧ v = -1) := by rw [h1.2]; split <;> omega
  refine lv_iload_n hx hb dX1_releaseHour_0 rfl (lv_at hl 1 rfl) ?_
  refine zi_const hx hb dX1_releaseHour_1 ?_
  refine zc_ne (tgt := 11) hx hb dX1_releaseHour_2 (by decide) (by first | decide | (constructor <;> omega)) (by first | decide | (constructor <;> omega)) (fun c_2 => ?_) (fun c_2 => ?_)
  · refine zi_sipush hx hb dX1_releaseHour_11 (by decide) ?_
    refine lv_iload_n hx hb dX1_releaseHour_14 rfl (lv_at hl 1 rfl) ?_
    refine lv_aload_n hx hb dX1_releaseHour_15 rfl (lv_at hl 0 rfl) ?_
    refine zget (C := RX1) (T := TX1) (N := 9) hx hb hts hinX1 hown hE hw 0 yE_0 rfl 8 (by decide) (hts (.fieldLink RX1 38 "FormworkYard" "cleaningHours" "I") (by decide +kernel)) rfl dX1_releaseHour_16 ?_
    refine zi_add hx hb dX1_releaseHour_19 ?_
    refine va_mmin hx hb (hml.trans hl.1.symm) hown (hts (.methodLink RX1 74 Lib.Math.min.name) (by decide +kernel)) (hts (.static Lib.Math.min.name) (by decide +kernel)) (hts (.initialized "java/lang/Math") (by decide +kernel)) (hts (.code Lib.Math.min.name Lib.Math.min.code 2 (some .int)) (by decide +kernel)) (Nat.le_of_ble_eq_true rfl) (Nat.le_of_ble_eq_true rfl) (Nat.le_of_ble_eq_true rfl) (Nat.le_of_ble_eq_true rfl) dX1_releaseHour_20 ?_
    rw [iI_min (a := 1000) (b := v + (yi 8)) (by first | decide | (constructor <;> omega)) (by first | decide | (constructor <;> omega))]
    refine zi_top (fun x_20 hx_20 => ?_)
    refine ziret hx hb hr hlocks hS (Nat.le_of_ble_eq_true rfl) (Nat.le_of_ble_eq_true rfl) (by first | decide | (constructor <;> omega)) ?_ dX1_releaseHour_23
    exact ⟨rfl, by unfold freeS; split <;> omega⟩
  · refine zi_sipush hx hb dX1_releaseHour_5 (by decide) ?_
    refine lv_goto (tgt := 23) hx hb dX1_releaseHour_8 (by decide) ?_
    refine ziret hx hb hr hlocks hS (Nat.le_of_ble_eq_true rfl) (Nat.le_of_ble_eq_true rfl) (by first | decide | (constructor <;> omega)) ?_ dX1_releaseHour_23
    exact ⟨rfl, by unfold freeS; split <;> omega⟩

set_option maxHeartbeats 4000000 in
set_option maxRecDepth 100000 in
theorem c_X1_strikeHour (l : Launch) (D : va_G) (cy : Nat → ClassId) (A : Nat → Prop) (ad : Nat → Nat) (ya : Nat → Nat → Int) (yi : Nat → Int) (pr : Nat → Option PS) (H0 : Heap) (T : Nat → Int) (e9 w : Int) (hw : zW D A ad (yE cy ad ya yi pr) H0) (h1 : 0 ≤ e9 ∧ e9 ≤ 1300) (h2 : 1 ≤ w ∧ w ≤ 100) (hG : gnd T ya) (ht : tOK T) : Met l yX1_strikeHour wsX1_strikeHour ({ frames := 2, cells := 0, slots := 0, locals := 44 }) (zPc D cy A [.ref (ad 0), .int (iI (e9)), .int (iI (w))] H0) (zQi (fun z H1 => H1 = H0 ∧ z = (if strikeS T w e9 < 1000 then strikeS T w e9 else -1)) A) 0 0 A := by
  refine Met.ofW (cc := cX1_strikeHour) (maxL := 6) (ret := (some .int)) (by decide) rfl ?_
  intro pg en s mt args below meth c s₁ B hml hv
  obtain ⟨rfl, hH, hE⟩ := hv
  subst hH
  have hx := B.exec
  have hb := B.bytes
  have hr := B.returns
  have hts := atoms_spec (ws := wsX1_strikeHour) B.pre
  have hown : s.vm.findClass RX1 = some mt.cls := findClass_of_methodNamed B.named
  have hlocks := B.notSynchronized
  have hS : va_S A s.heap s.heap [] := va_S.rf
  have hl := lv_entry ([.ref (ad 0), .int (iI (e9)), .int (iI (w))]) (n := 6) (Nat.le_of_ble_eq_true rfl)
  rw [lg_entry_eq]
  generalize (lg_sl ([.ref (ad 0), .int (iI (e9)), .int (iI (w))]) ++ List.replicate (6 - (lg_sl ([.ref (ad 0), .int (iI (e9)), .int (iI (w))])).length) Slot.unset).toArray = ls at hl ⊢
  have hl : lv_has ls 6 [(0, .ref (ad 0)), (1, .int (iI (e9))), (2, .int (iI (w)))] := hl
  obtain ⟨b1, b2, b3, b4⟩ := strikeS_b T w e9
  have b5 : strikeS T w e9 ≤ max 1000 e9 := by by_cases h : e9 ≤ 1000; have := b2 h; omega; rw [strike_hi (by omega)]; omega
  refine lv_iload_n hx hb dX1_strikeHour_0 rfl (lv_at hl 1 rfl) ?_
  refine zi_const hx hb dX1_strikeHour_1 ?_
  refine zi_sub hx hb dX1_strikeHour_2 ?_
  refine zi_top (fun x_3 hx_3 => ?_)
  refine lv_istore_n (lv' := [(3, .int (iI (x_3))), (0, .ref (ad 0)), (1, .int (iI (e9))), (2, .int (iI (w)))]) hx hb dX1_strikeHour_3 rfl hl (by decide) rfl (fun ls hl => ?_)
  refine zi_sipush hx hb dX1_strikeHour_4 (by decide) ?_
  refine lv_istore (lv' := [(4, .int (iI (512))), (3, .int (iI (x_3))), (0, .ref (ad 0)), (1, .int (iI (e9))), (2, .int (iI (w)))]) hx hb dX1_strikeHour_7 hl (by decide) rfl (fun ls hl => ?_)
  have loop_9 : ∀ (n : Nat) (x L : Int) (locs : List Loc) (ls : Array Slot), L.toNat < n → (pw L) → (e9 - 1 ≤ x) → (x < strikeS T w e9) → ((L = 0 ∧ strikeS T w e9 ≤ x + 1) ∨ (1 ≤ L ∧ strikeS T w e9 ≤ x + 2 * L)) → va_S A s.heap s.heap locs → lv_has ls 6 [(4, .int (iI (L))), (3, .int (iI (x))), (0, .ref (ad 0)), (1, .int (iI (e9))), (2, .int (iI (w)))] → W pg l en (headSpec wsX1_strikeHour ({ frames := 2, cells := 0, slots := 0, locals := 44 })).room s mt ([.ref (ad 0), .int (iI (e9)), .int (iI (w))] : List Value).toArray below meth c s.heap locs 0 0 (MQ below (zQi (fun z H1 => H1 = s.heap ∧ z = (if strikeS T w e9 < 1000 then strikeS T w e9 else -1)) A) ([.ref (ad 0), .int (iI (e9)), .int (iI (w))] : List Value).toArray s 0 0 A) (F0 mt 9 ls []) := by
    intro n
    induction n with
    | zero =>
      intro x L locs ls hm hL hx1 hx2 hx3
      exfalso; omega
    | succ n ih =>
      intro x L locs ls hm hL hx1 hx2 hx3 hS hl
      have hL5 : 0 ≤ L ∧ L ≤ 512 := by unfold pw at hL; omega
      refine lv_iload hx hb dX1_strikeHour_9 (lv_at hl 0 rfl) ?_
      refine zf_le (tgt := 54) hx hb dX1_strikeHour_11 (by decide) (by first | decide | (constructor <;> omega)) (fun c_11 => ?_) (fun c_11 => ?_)
      · refine lv_iload_n hx hb dX1_strikeHour_54 rfl (lv_at hl 1 rfl) ?_
        refine zi_const hx hb dX1_strikeHour_55 ?_
        refine zi_add hx hb dX1_strikeHour_56 ?_
        refine zi_top (fun x_57 hx_57 => ?_)
        refine lv_istore (lv' := [(4, .int (iI (x_57))), (3, .int (iI (x))), (0, .ref (ad 0)), (1, .int (iI (e9))), (2, .int (iI (w)))]) hx hb dX1_strikeHour_57 hl (by decide) rfl (fun ls hl => ?_)
        refine lv_iload hx hb dX1_strikeHour_59 (lv_at hl 0 rfl) ?_
        refine zi_sipush hx hb dX1_strikeHour_61 (by decide) ?_
        refine zc_ge (tgt := 72) hx hb dX1_strikeHour_64 (by decide) (by first | decide | (constructor <;> omega)) (by first | decide | (constructor <;> omega)) (fun c_64 => ?_) (fun c_64 => ?_)
        · refine zi_const hx hb dX1_strikeHour_72 ?_
          refine ziret hx hb hr hlocks hS (Nat.le_of_ble_eq_true rfl) (Nat.le_of_ble_eq_true rfl) (by first | decide | (constructor <;> omega)) ?_ dX1_strikeHour_73
          exact ⟨rfl, by split <;> omega⟩
        · refine lv_iload hx hb dX1_strikeHour_67 (lv_at hl 0 rfl) ?_
          refine lv_goto (tgt := 73) hx hb dX1_strikeHour_69 (by decide) ?_
          refine ziret hx hb hr hlocks hS (Nat.le_of_ble_eq_true rfl) (Nat.le_of_ble_eq_true rfl) (by first | decide | (constructor <;> omega)) ?_ dX1_strikeHour_73
          exact ⟨rfl, by split <;> omega⟩
      · have hps := pw_s hL (by omega)
        refine lv_iload_n hx hb dX1_strikeHour_14 rfl (lv_at hl 1 rfl) ?_
        refine lv_iload hx hb dX1_strikeHour_15 (lv_at hl 0 rfl) ?_
        refine zi_add hx hb dX1_strikeHour_17 ?_
        refine zi_top (fun x_18 hx_18 => ?_)
        refine lv_istore (lv' := [(5, .int (iI (x_18))), (4, .int (iI (L))), (3, .int (iI (x))), (0, .ref (ad 0)), (1, .int (iI (e9))), (2, .int (iI (w)))]) hx hb dX1_strikeHour_18 hl (by decide) rfl (fun ls hl => ?_)
        refine lv_iload hx hb dX1_strikeHour_20 (lv_at hl 0 rfl) ?_
        refine zi_sipush hx hb dX1_strikeHour_22 (by decide) ?_
        refine zc_ge (tgt := 45) hx hb dX1_strikeHour_25 (by decide) (by first | decide | (constructor <;> omega)) (by first | decide | (constructor <;> omega)) (fun c_25 => ?_) (fun c_25 => ?_)
        · have hle : strikeS T w e9 ≤ x_18 := by omega
          refine lv_iload hx hb dX1_strikeHour_45 (lv_at hl 1 rfl) ?_
          refine zi_const hx hb dX1_strikeHour_47 ?_
          refine zi_div hx hb dX1_strikeHour_48 (by omega) (by omega) (by omega) (by omega) ?_
          refine zi_top (fun x_49 hx_49 => ?_)
          refine lv_istore (lv' := [(4, .int (iI (x_49))), (5, .int (iI (x_18))), (3, .int (iI (x))), (0, .ref (ad 0)), (1, .int (iI (e9))), (2, .int (iI (w)))]) hx hb dX1_strikeHour_49 hl (by decide) rfl (fun ls hl => ?_)
          refine lv_goto (tgt := 9) hx hb dX1_strikeHour_51 (by decide) ?_
          exact ih x x_49 _ _ (by omega) (by rw [hx_49]; exact hps.1) (by omega) (by omega) (by omega) hS (lv_sub hl [0, 2, 3, 4, 5] rfl)
        · refine lv_aload_n hx hb dX1_strikeHour_28 rfl (lv_at hl 3 rfl) ?_
          refine lv_iload_n hx hb dX1_strikeHour_29 rfl (lv_at hl 4 rfl) ?_
          refine lv_iload hx hb dX1_strikeHour_30 (lv_at hl 0 rfl) ?_
          refine zcalli (va_runV (As := [.int (iI (e9)), .int (iI (x_18))]) (rest := []) ⟨hx, hb, hml, hown, hts⟩ (c_X1_gainBetween l D cy A ad ya yi pr _ T (e9) (x_18) hw (by omega) (by first | decide | (constructor <;> omega)) hG ht) (cwV 2 hts gX1_strikeHour_X1_gainBetween rfl rfl rfl (by decide +kernel) ⟨(Nat.le_of_ble_eq_true rfl), (Nat.le_of_ble_eq_true rfl)⟩) (zPV hE hS hw (ci := 1) (k0 := 0) rfl yE_0) rfl rfl hl.1 rfl (lv_room (Nat.le_of_ble_eq_true rfl)) dX1_strikeHour_32 ⟨(Nat.le_of_ble_eq_true rfl), (Nat.le_of_ble_eq_true rfl)⟩) hS (fun z_32 H1 locs hz_32 hq hz1 hk1 hS => ?_)
          obtain ⟨hqe, hv_32⟩ := hq
          replace hqe := hqe.symm
          subst hqe
          have hmb := mat_b ht e9 x_18
          refine zcalli (va_runS (As := [.int (iI (z_32))]) (rest := []) ⟨hx, hb, hml, hown, hts⟩ (c_X1_strengthAt l D cy A ad _ (z_32) (by omega)) (va_cwS 1 hts gX1_strikeHour_X1_strengthAt rfl rfl rfl (by decide +kernel) ⟨(Nat.le_of_ble_eq_true rfl), (Nat.le_of_ble_eq_true rfl)⟩) (zPS hE hS) rfl rfl hl.1 rfl (lv_room (Nat.le_of_ble_eq_true rfl)) dX1_strikeHour_35 ⟨(Nat.le_of_ble_eq_true rfl), (Nat.le_of_ble_eq_true rfl)⟩) hS (fun z_35 H1 locs hz_35 hq hz1 hk1 hS => ?_)
          obtain ⟨hqe, hv_35⟩ := hq
          replace hqe := hqe.symm
          subst hqe
          have hsb := strg_b (m := z_32) (by omega)
          refine lv_iload_n hx hb dX1_strikeHour_38 rfl (lv_at hl 5 rfl) ?_
          refine zc_ge (tgt := 45) hx hb dX1_strikeHour_39 (by decide) (by first | decide | (constructor <;> omega)) (by first | decide | (constructor <;> omega)) (fun c_39 => ?_) (fun c_39 => ?_)
          · have hle : strikeS T w e9 ≤ x_18 := strike_le (by omega) (by rw [← hv_32, ← hv_35]; omega)
            refine lv_iload hx hb dX1_strikeHour_45 (lv_at hl 1 rfl) ?_
            refine zi_const hx hb dX1_strikeHour_47 ?_
            refine zi_div hx hb dX1_strikeHour_48 (by omega) (by omega) (by omega) (by omega) ?_
            refine zi_top (fun x_49 hx_49 => ?_)
            refine lv_istore (lv' := [(4, .int (iI (x_49))), (5, .int (iI (x_18))), (3, .int (iI (x))), (0, .ref (ad 0)), (1, .int (iI (e9))), (2, .int (iI (w)))]) hx hb dX1_strikeHour_49 hl (by decide) rfl (fun ls hl => ?_)
            refine lv_goto (tgt := 9) hx hb dX1_strikeHour_51 (by decide) ?_
            exact ih x x_49 _ _ (by omega) (by rw [hx_49]; exact hps.1) (by omega) (by omega) (by omega) hS (lv_sub hl [0, 2, 3, 4, 5] rfl)
          · have hle : x_18 < strikeS T w e9 := strike_lt ht (by omega) (by rw [← hv_32, ← hv_35]; omega)
            refine lv_iload hx hb dX1_strikeHour_42 (lv_at hl 0 rfl) ?_
            refine lv_istore_n (lv' := [(3, .int (iI (x_18))), (5, .int (iI (x_18))), (4, .int (iI (L))), (0, .ref (ad 0)), (1, .int (iI (e9))), (2, .int (iI (w)))]) hx hb dX1_strikeHour_44 rfl hl (by decide) rfl (fun ls hl => ?_)
            refine lv_iload hx hb dX1_strikeHour_45 (lv_at hl 2 rfl) ?_
            refine zi_const hx hb dX1_strikeHour_47 ?_
            refine zi_div hx hb dX1_strikeHour_48 (by omega) (by omega) (by omega) (by omega) ?_
            refine zi_top (fun x_49 hx_49 => ?_)
            refine lv_istore (lv' := [(4, .int (iI (x_49))), (3, .int (iI (x_18))), (5, .int (iI (x_18))), (0, .ref (ad 0)), (1, .int (iI (e9))), (2, .int (iI (w)))]) hx hb dX1_strikeHour_49 hl (by decide) rfl (fun ls hl => ?_)
            refine lv_goto (tgt := 9) hx hb dX1_strikeHour_51 (by decide) ?_
            exact ih x_18 x_49 _ _ (by omega) (by rw [hx_49]; exact hps.1) (by omega) (by omega) (by omega) hS (lv_sub hl [0, 1, 3, 4, 5] rfl)
  exact loop_9 513 x_3 512 _ _ (by omega) (Or.inl rfl) (by omega) (by omega) (by omega) hS (lv_sub hl [0, 1, 2, 3, 4] rfl)
