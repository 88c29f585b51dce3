set_option maxHeartbeats 4000000 in
set_option maxRecDepth 100000 in
theorem c_X2_in (l : Launch) (D : va_G) (cy : Nat → ClassId) (A : Nat → Prop) (ad : Nat → Nat) (H0 : Heap) (v a b : Int) (h1 : zr v) (h2 : zr a) (h3 : zr b) : Met l yX2_in wsX2_in ({ frames := 0, cells := 0, slots := 0, locals := 0 }) (zPc D cy A [.int (iI (v)), .int (iI (a)), .int (iI (b))] H0) (zQi (fun z H1 => H1 = H0 ∧ ((z = 1 ∧ a ≤ v ∧ v ≤ b) ∨ (z = 0 ∧ (v < a ∨ b < v)))) A) 0 0 A := by
  refine Met.ofW (cc := cX2_in) (maxL := 3) (ret := (some .boolean)) (by decide) rfl ?_
  intro pg en s mt args below meth c s₁ B hml hv
  obtain ⟨rfl, hH, hE⟩ := hv
  subst hH
  have hx := B.exec
  have hb := B.bytes
  have hr := B.returns
  have hts := atoms_spec (ws := wsX2_in) B.pre
  have hown : s.vm.findClass RX2 = some mt.cls := findClass_of_methodNamed B.named
  have hlocks := B.notSynchronized
  have hS : va_S A s.heap s.heap [] := va_S.rf
  have hl := lv_entry ([.int (iI (v)), .int (iI (a)), .int (iI (b))]) (n := 3) (Nat.le_of_ble_eq_true rfl)
  rw [lg_entry_eq]
  generalize (lg_sl ([.int (iI (v)), .int (iI (a)), .int (iI (b))]) ++ List.replicate (3 - (lg_sl ([.int (iI (v)), .int (iI (a)), .int (iI (b))])).length) Slot.unset).toArray = ls at hl ⊢
  have hl : lv_has ls 3 [(0, .int (iI (v))), (1, .int (iI (a))), (2, .int (iI (b)))] := hl
  refine lv_iload_n hx hb dX2_in_0 rfl (lv_at hl 0 rfl) ?_
  refine lv_iload_n hx hb dX2_in_1 rfl (lv_at hl 1 rfl) ?_
  refine zc_lt (tgt := 14) hx hb dX2_in_2 (by decide) (by first | decide | (constructor <;> omega)) (by first | decide | (constructor <;> omega)) (fun c_2 => ?_) (fun c_2 => ?_)
  · refine zi_const hx hb dX2_in_14 ?_
    refine zzret hx hb hr hlocks hS (Nat.le_of_ble_eq_true rfl) (Nat.le_of_ble_eq_true rfl) (by omega) ?_ dX2_in_15
    exact ⟨rfl, by omega⟩
  · refine lv_iload_n hx hb dX2_in_5 rfl (lv_at hl 0 rfl) ?_
    refine lv_iload_n hx hb dX2_in_6 rfl (lv_at hl 2 rfl) ?_
    refine zc_gt (tgt := 14) hx hb dX2_in_7 (by decide) (by first | decide | (constructor <;> omega)) (by first | decide | (constructor <;> omega)) (fun c_7 => ?_) (fun c_7 => ?_)
    · refine zi_const hx hb dX2_in_14 ?_
      refine zzret hx hb hr hlocks hS (Nat.le_of_ble_eq_true rfl) (Nat.le_of_ble_eq_true rfl) (by omega) ?_ dX2_in_15
      exact ⟨rfl, by omega⟩
    · refine zi_const hx hb dX2_in_10 ?_
      refine lv_goto (tgt := 15) hx hb dX2_in_11 (by decide) ?_
      refine zzret hx hb hr hlocks hS (Nat.le_of_ble_eq_true rfl) (Nat.le_of_ble_eq_true rfl) (by omega) ?_ dX2_in_15
      exact ⟨rfl, by omega⟩

set_option maxHeartbeats 4000000 in
set_option maxRecDepth 100000 in
theorem c_X2_isHour (l : Launch) (D : va_G) (cy : Nat → ClassId) (A : Nat → Prop) (ad : Nat → Nat) (H0 : Heap) (h : Int) (h1 : zr h) : Met l yX2_isHour wsX2_isHour ({ frames := 1, cells := 0, slots := 0, locals := 22 }) (zPc D cy A [.int (iI (h))] H0) (zQi (fun z H1 => H1 = H0 ∧ ((z = 1 ∧ 0 ≤ h ∧ h < 1000) ∨ (z = 0 ∧ (h < 0 ∨ 1000 ≤ h)))) A) 0 0 A := by
  refine Met.ofW (cc := cX2_isHour) (maxL := 1) (ret := (some .boolean)) (by decide) rfl ?_
  intro pg en s mt args below meth c s₁ B hml hv
  obtain ⟨rfl, hH, hE⟩ := hv
  subst hH
  have hx := B.exec
  have hb := B.bytes
  have hr := B.returns
  have hts := atoms_spec (ws := wsX2_isHour) B.pre
  have hown : s.vm.findClass RX2 = some mt.cls := findClass_of_methodNamed B.named
  have hlocks := B.notSynchronized
  have hS : va_S A s.heap s.heap [] := va_S.rf
  have hl := lv_entry ([.int (iI (h))]) (n := 1) (Nat.le_of_ble_eq_true rfl)
  rw [lg_entry_eq]
  generalize (lg_sl ([.int (iI (h))]) ++ List.replicate (1 - (lg_sl ([.int (iI (h))])).length) Slot.unset).toArray = ls at hl ⊢
  have hl : lv_has ls 1 [(0, .int (iI (h)))] := hl
  refine lv_iload_n hx hb dX2_isHour_0 rfl (lv_at hl 0 rfl) ?_
  refine zi_const hx hb dX2_isHour_1 ?_
  refine zi_sipush hx hb dX2_isHour_2 (by decide) ?_
  refine zcalli (va_runS (As := [.int (iI (h)), .int (iI (0)), .int (iI (999))]) (rest := []) ⟨hx, hb, hml, hown, hts⟩ (c_X2_in l D cy A ad _ (h) (0) (999) (by first | decide | (constructor <;> omega)) (by first | decide | (constructor <;> omega)) (by first | decide | (constructor <;> omega))) (va_cwS 3 hts gX2_isHour_X2_in rfl rfl rfl (by decide +kernel) ⟨(Nat.le_of_ble_eq_true rfl), (Nat.le_of_ble_eq_true rfl)⟩) (zPS hE hS) rfl rfl hl.1 rfl (lv_room (Nat.le_of_ble_eq_true rfl)) dX2_isHour_5 ⟨(Nat.le_of_ble_eq_true rfl), (Nat.le_of_ble_eq_true rfl)⟩) hS (fun z_5 H1 locs hz_5 hq hz1 hk1 hS => ?_)
  obtain ⟨hqe, hv_5⟩ := hq
  replace hqe := hqe.symm
  subst hqe
  refine zzret hx hb hr hlocks hS (Nat.le_of_ble_eq_true rfl) (Nat.le_of_ble_eq_true rfl) (by omega) ?_ dX2_isHour_8
  exact ⟨rfl, by omega⟩

set_option maxHeartbeats 4000000 in
set_option maxRecDepth 100000 in
theorem c_X2_isPour (l : Launch) (D : va_G) (cy : Nat → ClassId) (A : Nat → Prop) (ad : Nat → Nat) (mi : Nat → Int) (ma : Nat → Nat → Int) (H0 : Heap) (p : Int) (hw : zW D A ad (mE cy ad mi ma) H0) (h1 : zr p) (hb7 : ∀ j, j < 11 → ma 7 j = 0 ∨ ma 7 j = 1) : Met l yX2_isPour wsX2_isPour ({ frames := 1, cells := 0, slots := 0, locals := 22 }) (zPc D cy A [.ref (ad 0), .int (iI (p))] H0) (zQi (fun z H1 => H1 = H0 ∧ ((z = 1 ∧ 0 ≤ p ∧ p < 10 ∧ ma 7 p.toNat = 1) ∨ (z = 0 ∧ (p < 0 ∨ 10 ≤ p ∨ ma 7 p.toNat = 0)))) A) 0 0 A := by
  refine Met.ofW (cc := cX2_isPour) (maxL := 2) (ret := (some .boolean)) (by decide) rfl ?_
  intro pg en s mt args below meth c s₁ B hml hv
  obtain ⟨rfl, hH, hE⟩ := hv
  subst hH
  have hx := B.exec
  have hb := B.bytes
  have hr := B.returns
  have hts := atoms_spec (ws := wsX2_isPour) B.pre
  have hown : s.vm.findClass RX2 = some mt.cls := findClass_of_methodNamed B.named
  have hlocks := B.notSynchronized
  have hinX2 : ∀ w ∈ u_ws RX2 TX2 19, w ∈ wsX2_isPour := by decide +kernel
  have hS : va_S A s.heap s.heap [] := va_S.rf
  have hl := lv_entry ([.ref (ad 0), .int (iI (p))]) (n := 2) (Nat.le_of_ble_eq_true rfl)
  rw [lg_entry_eq]
  generalize (lg_sl ([.ref (ad 0), .int (iI (p))]) ++ List.replicate (2 - (lg_sl ([.ref (ad 0), .int (iI (p))])).length) Slot.unset).toArray = ls at hl ⊢
  have hl : lv_has ls 2 [(0, .ref (ad 0)), (1, .int (iI (p)))] := hl
  refine lv_iload_n hx hb dX2_isPour_0 rfl (lv_at hl 1 rfl) ?_
  refine zi_const hx hb dX2_isPour_1 ?_
  refine zi_bipush hx hb dX2_isPour_2 (by decide) ?_
  refine zcalli (va_runS (As := [.int (iI (p)), .int (iI (0)), .int (iI (9))]) (rest := []) ⟨hx, hb, hml, hown, hts⟩ (c_X2_in l D cy A ad _ (p) (0) (9) (by first | decide | (constructor <;> omega)) (by first | decide | (constructor <;> omega)) (by first | decide | (constructor <;> omega))) (va_cwS 3 hts gX2_isPour_X2_in rfl rfl rfl (by decide +kernel) ⟨(Nat.le_of_ble_eq_true rfl), (Nat.le_of_ble_eq_true rfl)⟩) (zPS hE hS) rfl rfl hl.1 rfl (lv_room (Nat.le_of_ble_eq_true rfl)) dX2_isPour_4 ⟨(Nat.le_of_ble_eq_true rfl), (Nat.le_of_ble_eq_true rfl)⟩) hS (fun z_4 H1 locs hz_4 hq hz1 hk1 hS => ?_)
  obtain ⟨hqe, hv_4⟩ := hq
  replace hqe := hqe.symm
  subst hqe
  refine zf_eq (tgt := 23) hx hb dX2_isPour_7 (by decide) (by first | decide | (constructor <;> omega)) (fun c_7 => ?_) (fun c_7 => ?_)
  · refine zi_const hx hb dX2_isPour_23 ?_
    refine zzret hx hb hr hlocks hS (Nat.le_of_ble_eq_true rfl) (Nat.le_of_ble_eq_true rfl) (by omega) ?_ dX2_isPour_24
    exact ⟨rfl, by omega⟩
  · refine lv_aload_n hx hb dX2_isPour_10 rfl (lv_at hl 0 rfl) ?_
    refine zget (C := RX2) (T := TX2) (N := 19) hx hb hts hinX2 hown hE hw 0 mE_0 rfl 7 (by decide) (hts (.fieldLink RX2 29 "FormworkYardModel" "isThere" "[Z") (by decide +kernel)) rfl dX2_isPour_11 ?_
    refine lv_iload_n hx hb dX2_isPour_14 rfl (lv_at hl 1 rfl) ?_
    refine zzald hx hb hE hw 7 (mE_a 7 (by decide) rfl) (p).toNat (by omega) (by omega) (by omega) dX2_isPour_15 ?_
    refine zi_top (fun v_15 hv_15 => ?_)
    have hB := hb7 p.toNat (by omega)
    refine zf_eq (tgt := 23) hx hb dX2_isPour_16 (by decide) (by first | decide | (constructor <;> omega)) (fun c_16 => ?_) (fun c_16 => ?_)
    · refine zi_const hx hb dX2_isPour_23 ?_
      refine zzret hx hb hr hlocks hS (Nat.le_of_ble_eq_true rfl) (Nat.le_of_ble_eq_true rfl) (by omega) ?_ dX2_isPour_24
      exact ⟨rfl, by omega⟩
    · refine zi_const hx hb dX2_isPour_19 ?_
      refine lv_goto (tgt := 24) hx hb dX2_isPour_20 (by decide) ?_
      refine zzret hx hb hr hlocks hS (Nat.le_of_ble_eq_true rfl) (Nat.le_of_ble_eq_true rfl) (by omega) ?_ dX2_isPour_24
      exact ⟨rfl, by omega⟩

set_option maxHeartbeats 4000000 in
set_option maxRecDepth 100000 in
theorem c_X2_gain (l : Launch) (D : va_G) (cy : Nat → ClassId) (A : Nat → Prop) (ad : Nat → Nat) (mi : Nat → Int) (ma : Nat → Nat → Int) (H0 : Heap) (h : Int) (hw : zW D A ad (mE cy ad mi ma) H0) (h1 : zr h) (ht : tOK (ma 1)) : Met l yX2_gain wsX2_gain ({ frames := 2, cells := 0, slots := 0, locals := 42 }) (zPc D cy A [.ref (ad 0), .int (iI (h))] H0) (zQi (fun z H1 => H1 = H0 ∧ z = gAt (ma 1) h) A) 0 0 A := by
  refine Met.ofW (cc := cX2_gain) (maxL := 3) (ret := (some .int)) (by decide) rfl ?_
  intro pg en s mt args below meth c s₁ B hml hv
  obtain ⟨rfl, hH, hE⟩ := hv
  subst hH
  have hx := B.exec
  have hb := B.bytes
  have hr := B.returns
  have hts := atoms_spec (ws := wsX2_gain) B.pre
  have hown : s.vm.findClass RX2 = some mt.cls := findClass_of_methodNamed B.named
  have hlocks := B.notSynchronized
  have hinX2 : ∀ w ∈ u_ws RX2 TX2 19, w ∈ wsX2_gain := by decide +kernel
  have hS : va_S A s.heap s.heap [] := va_S.rf
  have hl := lv_entry ([.ref (ad 0), .int (iI (h))]) (n := 3) (Nat.le_of_ble_eq_true rfl)
  rw [lg_entry_eq]
  generalize (lg_sl ([.ref (ad 0), .int (iI (h))]) ++ List.replicate (3 - (lg_sl ([.ref (ad 0), .int (iI (h))])).length) Slot.unset).toArray = ls at hl ⊢
  have hl : lv_has ls 3 [(0, .ref (ad 0)), (1, .int (iI (h)))] := hl
  refine lv_iload_n hx hb dX2_gain_0 rfl (lv_at hl 1 rfl) ?_
  refine zcalli (va_runS (As := [.int (iI (h))]) (rest := []) ⟨hx, hb, hml, hown, hts⟩ (c_X2_isHour l D cy A ad _ (h) (by first | decide | (constructor <;> omega))) (va_cwS 1 hts gX2_gain_X2_isHour rfl rfl rfl (by decide +kernel) ⟨(Nat.le_of_ble_eq_true rfl), (Nat.le_of_ble_eq_true rfl)⟩) (zPS hE hS) rfl rfl hl.1 rfl (lv_room (Nat.le_of_ble_eq_true rfl)) dX2_gain_1 ⟨(Nat.le_of_ble_eq_true rfl), (Nat.le_of_ble_eq_true rfl)⟩) hS (fun z_1 H1 locs hz_1 hq hz1 hk1 hS => ?_)
  obtain ⟨hqe, hv_1⟩ := hq
  replace hqe := hqe.symm
  subst hqe
  refine zf_eq (tgt := 19) hx hb dX2_gain_4 (by decide) (by first | decide | (constructor <;> omega)) (fun c_4 => ?_) (fun c_4 => ?_)
  · refine zi_const hx hb dX2_gain_19 ?_
    refine lv_istore_n (lv' := [(2, .int (iI (0))), (0, .ref (ad 0)), (1, .int (iI (h)))]) hx hb dX2_gain_20 rfl hl (by decide) rfl (fun ls hl => ?_)
    refine lv_iload_n hx hb dX2_gain_21 rfl (lv_at hl 0 rfl) ?_
    refine zf_ge (tgt := 29) hx hb dX2_gain_22 (by decide) (by first | decide | (constructor <;> omega)) (fun c_22 => ?_) (fun c_22 => ?_)
    · refine lv_iload_n hx hb dX2_gain_29 rfl (lv_at hl 0 rfl) ?_
      refine ziret hx hb hr hlocks hS (Nat.le_of_ble_eq_true rfl) (Nat.le_of_ble_eq_true rfl) (by first | decide | (constructor <;> omega)) ?_ dX2_gain_30
      refine ⟨rfl, ?_⟩
      unfold gAt gn
      repeat' split
      all_goals omega
    · exfalso; omega
  · refine lv_aload_n hx hb dX2_gain_7 rfl (lv_at hl 0 rfl) ?_
    refine zget (C := RX2) (T := TX2) (N := 19) hx hb hts hinX2 hown hE hw 0 mE_0 rfl 1 (by decide) (hts (.fieldLink RX2 7 "FormworkYardModel" "temperatures" "[I") (by decide +kernel)) rfl dX2_gain_8 ?_
    refine lv_iload_n hx hb dX2_gain_11 rfl (lv_at hl 1 rfl) ?_
    refine ziald hx hb hE hw 1 (mE_a 1 (by decide) rfl) (h).toNat (by omega) (by omega) (by omega) dX2_gain_12 ?_
    refine zi_top (fun v_12 hv_12 => ?_)
    have hT := ht h.toNat (by omega)
    refine zi_bipush hx hb dX2_gain_13 (by decide) ?_
    refine zi_add hx hb dX2_gain_15 ?_
    refine lv_goto (tgt := 20) hx hb dX2_gain_16 (by decide) ?_
    refine zi_top (fun x_20 hx_20 => ?_)
    refine lv_istore_n (lv' := [(2, .int (iI (x_20))), (0, .ref (ad 0)), (1, .int (iI (h)))]) hx hb dX2_gain_20 rfl hl (by decide) rfl (fun ls hl => ?_)
    refine lv_iload_n hx hb dX2_gain_21 rfl (lv_at hl 0 rfl) ?_
    refine zf_ge (tgt := 29) hx hb dX2_gain_22 (by decide) (by first | decide | (constructor <;> omega)) (fun c_22 => ?_) (fun c_22 => ?_)
    · refine lv_iload_n hx hb dX2_gain_29 rfl (lv_at hl 0 rfl) ?_
      refine ziret hx hb hr hlocks hS (Nat.le_of_ble_eq_true rfl) (Nat.le_of_ble_eq_true rfl) (by first | decide | (constructor <;> omega)) ?_ dX2_gain_30
      refine ⟨rfl, ?_⟩
      unfold gAt gn
      repeat' split
      all_goals omega
    · refine zi_const hx hb dX2_gain_25 ?_
      refine lv_goto (tgt := 30) hx hb dX2_gain_26 (by decide) ?_
      refine ziret hx hb hr hlocks hS (Nat.le_of_ble_eq_true rfl) (Nat.le_of_ble_eq_true rfl) (by first | decide | (constructor <;> omega)) ?_ dX2_gain_30
      refine ⟨rfl, ?_⟩
      unfold gAt gn
      repeat' split
      all_goals omega

set_option maxHeartbeats 4000000 in
set_option maxRecDepth 100000 in
theorem c_X2_sum (l : Launch) (D : va_G) (cy : Nat → ClassId) (A : Nat → Prop) (ad : Nat → Nat) (mi : Nat → Int) (ma : Nat → Nat → Int) (H0 : Heap) (a b : Int) (hw : zW D A ad (mE cy ad mi ma) H0) (h1 : 0 ≤ a ∧ a ≤ 3000) (h2 : -3000 ≤ b ∧ b ≤ 3000) (ht : tOK (ma 1)) : Met l yX2_sum wsX2_sum ({ frames := 3, cells := 0, slots := 0, locals := 64 }) (zPc D cy A [.ref (ad 0), .int (iI (a)), .int (iI (b))] H0) (zQi (fun z H1 => H1 = H0 ∧ z = mat (ma 1) a b) A) 0 0 A := by
  refine Met.ofW (cc := cX2_sum) (maxL := 5) (ret := (some .int)) (by decide) rfl ?_
  intro pg en s mt args below meth c s₁ B hml hv
  obtain ⟨rfl, hH, hE⟩ := hv
  subst hH
  have hx := B.exec
  have hb := B.bytes
  have hr := B.returns
  have hts := atoms_spec (ws := wsX2_sum) B.pre
  have hown : s.vm.findClass RX2 = some mt.cls := findClass_of_methodNamed B.named
  have hlocks := B.notSynchronized
  have hS : va_S A s.heap s.heap [] := va_S.rf
  have hl := lv_entry ([.ref (ad 0), .int (iI (a)), .int (iI (b))]) (n := 5) (Nat.le_of_ble_eq_true rfl)
  rw [lg_entry_eq]
  generalize (lg_sl ([.ref (ad 0), .int (iI (a)), .int (iI (b))]) ++ List.replicate (5 - (lg_sl ([.ref (ad 0), .int (iI (a)), .int (iI (b))])).length) Slot.unset).toArray = ls at hl ⊢
  have hl : lv_has ls 5 [(0, .ref (ad 0)), (1, .int (iI (a))), (2, .int (iI (b)))] := hl
  refine zi_const hx hb dX2_sum_0 ?_
  refine lv_istore_n (lv' := [(3, .int (iI (0))), (0, .ref (ad 0)), (1, .int (iI (a))), (2, .int (iI (b)))]) hx hb dX2_sum_1 rfl hl (by decide) rfl (fun ls hl => ?_)
  refine lv_iload_n hx hb dX2_sum_2 rfl (lv_at hl 2 rfl) ?_
  refine lv_istore (lv' := [(4, .int (iI (a))), (3, .int (iI (0))), (0, .ref (ad 0)), (1, .int (iI (a))), (2, .int (iI (b)))]) hx hb dX2_sum_3 hl (by decide) rfl (fun ls hl => ?_)
  have loop_5 : ∀ (n : Nat) (h w : Int) (locs : List Loc) (ls : Array Slot), (b - h).toNat < n → (a ≤ h) → (h ≤ max a b) → (w = mat (ma 1) a h) → va_S A s.heap s.heap locs → lv_has ls 5 [(4, .int (iI (h))), (3, .int (iI (w))), (0, .ref (ad 0)), (1, .int (iI (a))), (2, .int (iI (b)))] → W pg l en (headSpec wsX2_sum ({ frames := 3, cells := 0, slots := 0, locals := 64 })).room s mt ([.ref (ad 0), .int (iI (a)), .int (iI (b))] : List Value).toArray below meth c s.heap locs 0 0 (MQ below (zQi (fun z H1 => H1 = s.heap ∧ z = mat (ma 1) a b) A) ([.ref (ad 0), .int (iI (a)), .int (iI (b))] : List Value).toArray s 0 0 A) (F0 mt 5 ls []) := by
    intro n
    induction n with
    | zero =>
      intro h w locs ls hm hi hj hk
      exfalso; omega
    | succ n ih =>
      intro h w locs ls hm hi hj hk hS hl
      have hmb := mat_b ht a h
      refine lv_iload hx hb dX2_sum_5 (lv_at hl 0 rfl) ?_
      refine lv_iload_n hx hb dX2_sum_7 rfl (lv_at hl 4 rfl) ?_
      refine zc_ge (tgt := 26) hx hb dX2_sum_8 (by decide) (by first | decide | (constructor <;> omega)) (by first | decide | (constructor <;> omega)) (fun c_8 => ?_) (fun c_8 => ?_)
      · refine lv_iload_n hx hb dX2_sum_26 rfl (lv_at hl 1 rfl) ?_
        refine ziret hx hb hr hlocks hS (Nat.le_of_ble_eq_true rfl) (Nat.le_of_ble_eq_true rfl) (by first | decide | (constructor <;> omega)) ?_ dX2_sum_27
        refine ⟨rfl, ?_⟩
        by_cases hab : a < b
        · rw [hk, show h = b by omega]
        · rw [hk, show h = a by omega, mat_0]; unfold mat; rw [if_neg hab]
      · refine lv_iload_n hx hb dX2_sum_11 rfl (lv_at hl 1 rfl) ?_
        refine lv_aload_n hx hb dX2_sum_12 rfl (lv_at hl 2 rfl) ?_
        refine lv_iload hx hb dX2_sum_13 (lv_at hl 0 rfl) ?_
        refine zcalli (va_runV (As := [.int (iI (h))]) (rest := [.int (iI (w))]) ⟨hx, hb, hml, hown, hts⟩ (c_X2_gain l D cy A ad mi ma _ (h) hw (by first | decide | (constructor <;> omega)) ht) (cwV 1 hts gX2_sum_X2_gain rfl rfl rfl (by decide +kernel) ⟨(Nat.le_of_ble_eq_true rfl), (Nat.le_of_ble_eq_true rfl)⟩) (zPV hE hS hw (ci := 2) (k0 := 0) rfl mE_0) rfl rfl hl.1 rfl (lv_room (Nat.le_of_ble_eq_true rfl)) dX2_sum_15 ⟨(Nat.le_of_ble_eq_true rfl), (Nat.le_of_ble_eq_true rfl)⟩) hS (fun z_15 H1 locs hz_15 hq hz1 hk1 hS => ?_)
        obtain ⟨hqe, hv_15⟩ := hq
        replace hqe := hqe.symm
        subst hqe
        refine zi_add hx hb dX2_sum_18 ?_
        refine zi_top (fun x_19 hx_19 => ?_)
        refine lv_istore_n (lv' := [(3, .int (iI (x_19))), (4, .int (iI (h))), (0, .ref (ad 0)), (1, .int (iI (a))), (2, .int (iI (b)))]) hx hb dX2_sum_19 rfl hl (by decide) rfl (fun ls hl => ?_)
        refine zi_iinc (lv' := [(4, .int (iI (h + 1))), (3, .int (iI (x_19))), (0, .ref (ad 0)), (1, .int (iI (a))), (2, .int (iI (b)))]) hx hb dX2_sum_20 hl (k := 1) rfl (by decide) rfl (fun ls hl => ?_)
        refine lv_goto (tgt := 5) hx hb dX2_sum_23 (by decide) ?_
        exact ih (h + 1) x_19 _ _ (by omega) (by omega) (by omega) (by rw [mat_s _ _ (by omega) (by omega)]; omega) hS (lv_sub hl [0, 1, 2, 3, 4] rfl)
  exact loop_5 ((b - a).toNat + 1) a 0 _ _ (by omega) (by omega) (by omega) (by rw [mat_0]) hS (lv_sub hl [0, 1, 2, 3, 4] rfl)

set_option maxHeartbeats 4000000 in
set_option maxRecDepth 100000 in
theorem c_X2_between (l : Launch) (D : va_G) (cy : Nat → ClassId) (A : Nat → Prop) (ad : Nat → Nat) (H0 : Heap) (v a b f : Int) (h1 : 0 ≤ v - a) (h2 : v - a ≤ 1000000) (h3 : 1 ≤ b - a) (h4 : b - a ≤ 5000) (h5 : 0 ≤ f ∧ f ≤ 100) : Met l yX2_between wsX2_between ({ frames := 0, cells := 0, slots := 0, locals := 0 }) (zPc D cy A [.int (iI (v)), .int (iI (a)), .int (iI (b)), .int (iI (f))] H0) (zQi (fun z H1 => H1 = H0 ∧ z = f + 25 * (v - a) / (b - a)) A) 0 0 A := by
  refine Met.ofW (cc := cX2_between) (maxL := 4) (ret := (some .int)) (by decide) rfl ?_
  intro pg en s mt args below meth c s₁ B hml hv
  obtain ⟨rfl, hH, hE⟩ := hv
  subst hH
  have hx := B.exec
  have hb := B.bytes
  have hr := B.returns
  have hts := atoms_spec (ws := wsX2_between) B.pre
  have hown : s.vm.findClass RX2 = some mt.cls := findClass_of_methodNamed B.named
  have hlocks := B.notSynchronized
  have hS : va_S A s.heap s.heap [] := va_S.rf
  have hl := lv_entry ([.int (iI (v)), .int (iI (a)), .int (iI (b)), .int (iI (f))]) (n := 4) (Nat.le_of_ble_eq_true rfl)
  rw [lg_entry_eq]
  generalize (lg_sl ([.int (iI (v)), .int (iI (a)), .int (iI (b)), .int (iI (f))]) ++ List.replicate (4 - (lg_sl ([.int (iI (v)), .int (iI (a)), .int (iI (b)), .int (iI (f))])).length) Slot.unset).toArray = ls at hl ⊢
  have hl : lv_has ls 4 [(0, .int (iI (v))), (1, .int (iI (a))), (2, .int (iI (b))), (3, .int (iI (f)))] := hl
  refine lv_iload_n hx hb dX2_between_0 rfl (lv_at hl 3 rfl) ?_
  refine zi_bipush hx hb dX2_between_1 (by decide) ?_
  refine lv_iload_n hx hb dX2_between_3 rfl (lv_at hl 0 rfl) ?_
  refine lv_iload_n hx hb dX2_between_4 rfl (lv_at hl 1 rfl) ?_
  refine zi_sub hx hb dX2_between_5 ?_
  refine zi_mul hx hb dX2_between_6 ?_
  refine lv_iload_n hx hb dX2_between_7 rfl (lv_at hl 2 rfl) ?_
  refine lv_iload_n hx hb dX2_between_8 rfl (lv_at hl 1 rfl) ?_
  refine zi_sub hx hb dX2_between_9 ?_
  refine zi_div hx hb dX2_between_10 (by omega) (by omega) (by omega) (by omega) ?_
  refine zi_add hx hb dX2_between_11 ?_
  have hd := div_b (a := 25 * (v - a)) (b := b - a) (by omega) (by omega)
  refine ziret hx hb hr hlocks hS (Nat.le_of_ble_eq_true rfl) (Nat.le_of_ble_eq_true rfl) (by first | decide | (constructor <;> omega)) ?_ dX2_between_12
  exact ⟨rfl, rfl⟩

set_option maxHeartbeats 4000000 in
set_option maxRecDepth 100000 in
theorem c_X2_strong (l : Launch) (D : va_G) (cy : Nat → ClassId) (A : Nat → Prop) (ad : Nat → Nat) (H0 : Heap) (v : Int) (h1 : 0 ≤ v ∧ v ≤ 1000000) : Met l yX2_strong wsX2_strong ({ frames := 1, cells := 0, slots := 0, locals := 23 }) (zPc D cy A [.int (iI (v))] H0) (zQi (fun z H1 => H1 = H0 ∧ z = strg v) A) 0 0 A := by
  refine Met.ofW (cc := cX2_strong) (maxL := 1) (ret := (some .int)) (by decide) rfl ?_
  intro pg en s mt args below meth c s₁ B hml hv
  obtain ⟨rfl, hH, hE⟩ := hv
  subst hH
  have hx := B.exec
  have hb := B.bytes
  have hr := B.returns
  have hts := atoms_spec (ws := wsX2_strong) B.pre
  have hown : s.vm.findClass RX2 = some mt.cls := findClass_of_methodNamed B.named
  have hlocks := B.notSynchronized
  have hS : va_S A s.heap s.heap [] := va_S.rf
  have hl := lv_entry ([.int (iI (v))]) (n := 1) (Nat.le_of_ble_eq_true rfl)
  rw [lg_entry_eq]
  generalize (lg_sl ([.int (iI (v))]) ++ List.replicate (1 - (lg_sl ([.int (iI (v))])).length) Slot.unset).toArray = ls at hl ⊢
  have hl : lv_has ls 1 [(0, .int (iI (v)))] := hl
  refine lv_iload_n hx hb dX2_strong_0 rfl (lv_at hl 0 rfl) ?_
  refine zi_sipush hx hb dX2_strong_1 (by decide) ?_
  refine zc_lt (tgt := 12) hx hb dX2_strong_4 (by decide) (by first | decide | (constructor <;> omega)) (by first | decide | (constructor <;> omega)) (fun c_4 => ?_) (fun c_4 => ?_)
  · refine lv_iload_n hx hb dX2_strong_12 rfl (lv_at hl 0 rfl) ?_
    refine zi_sipush hx hb dX2_strong_13 (by decide) ?_
    refine zc_lt (tgt := 34) hx hb dX2_strong_16 (by decide) (by first | decide | (constructor <;> omega)) (by first | decide | (constructor <;> omega)) (fun c_16 => ?_) (fun c_16 => ?_)
    · refine lv_iload_n hx hb dX2_strong_34 rfl (lv_at hl 0 rfl) ?_
      refine zi_sipush hx hb dX2_strong_35 (by decide) ?_
      refine zc_lt (tgt := 56) hx hb dX2_strong_38 (by decide) (by first | decide | (constructor <;> omega)) (by first | decide | (constructor <;> omega)) (fun c_38 => ?_) (fun c_38 => ?_)
      · refine lv_iload_n hx hb dX2_strong_56 rfl (lv_at hl 0 rfl) ?_
        refine zi_sipush hx hb dX2_strong_57 (by decide) ?_
        refine zc_lt (tgt := 78) hx hb dX2_strong_60 (by decide) (by first | decide | (constructor <;> omega)) (by first | decide | (constructor <;> omega)) (fun c_60 => ?_) (fun c_60 => ?_)
        · refine lv_iload_n hx hb dX2_strong_78 rfl (lv_at hl 0 rfl) ?_
          refine zi_const hx hb dX2_strong_79 ?_
          refine zi_sipush hx hb dX2_strong_80 (by decide) ?_
          refine zi_const hx hb dX2_strong_83 ?_
          refine zcalli (va_runS (As := [.int (iI (v)), .int (iI (0)), .int (iI (500)), .int (iI (0))]) (rest := []) ⟨hx, hb, hml, hown, hts⟩ (c_X2_between l D cy A ad _ (v) (0) (500) (0) (by omega) (by omega) (by omega) (by omega) (by omega)) (va_cwS 4 hts gX2_strong_X2_between rfl rfl rfl (by decide +kernel) ⟨(Nat.le_of_ble_eq_true rfl), (Nat.le_of_ble_eq_true rfl)⟩) (zPS hE hS) rfl rfl hl.1 rfl (lv_room (Nat.le_of_ble_eq_true rfl)) dX2_strong_84 ⟨(Nat.le_of_ble_eq_true rfl), (Nat.le_of_ble_eq_true rfl)⟩) hS (fun z_84 H1 locs hz_84 hq hz1 hk1 hS => ?_)
          obtain ⟨hqe, hv_84⟩ := hq
          replace hqe := hqe.symm
          subst hqe
          simp only [Int.reduceSub, Int.sub_zero] at hv_84
          refine ziret hx hb hr hlocks hS (Nat.le_of_ble_eq_true rfl) (Nat.le_of_ble_eq_true rfl) (by first | decide | (constructor <;> omega)) ?_ dX2_strong_87
          refine ⟨rfl, ?_⟩
          unfold strg
          repeat' split
          all_goals omega
        · refine lv_iload_n hx hb dX2_strong_63 rfl (lv_at hl 0 rfl) ?_
          refine zi_sipush hx hb dX2_strong_64 (by decide) ?_
          refine zi_sipush hx hb dX2_strong_67 (by decide) ?_
          refine zi_bipush hx hb dX2_strong_70 (by decide) ?_
          refine zcalli (va_runS (As := [.int (iI (v)), .int (iI (500)), .int (iI (1200)), .int (iI (25))]) (rest := []) ⟨hx, hb, hml, hown, hts⟩ (c_X2_between l D cy A ad _ (v) (500) (1200) (25) (by omega) (by omega) (by omega) (by omega) (by omega)) (va_cwS 4 hts gX2_strong_X2_between rfl rfl rfl (by decide +kernel) ⟨(Nat.le_of_ble_eq_true rfl), (Nat.le_of_ble_eq_true rfl)⟩) (zPS hE hS) rfl rfl hl.1 rfl (lv_room (Nat.le_of_ble_eq_true rfl)) dX2_strong_72 ⟨(Nat.le_of_ble_eq_true rfl), (Nat.le_of_ble_eq_true rfl)⟩) hS (fun z_72 H1 locs hz_72 hq hz1 hk1 hS => ?_)
          obtain ⟨hqe, hv_72⟩ := hq
          replace hqe := hqe.symm
          subst hqe
          simp only [Int.reduceSub, Int.sub_zero] at hv_72
          refine lv_goto (tgt := 87) hx hb dX2_strong_75 (by decide) ?_
          refine ziret hx hb hr hlocks hS (Nat.le_of_ble_eq_true rfl) (Nat.le_of_ble_eq_true rfl) (by first | decide | (constructor <;> omega)) ?_ dX2_strong_87
          refine ⟨rfl, ?_⟩
          unfold strg
          repeat' split
          all_goals omega
      · refine lv_iload_n hx hb dX2_strong_41 rfl (lv_at hl 0 rfl) ?_
        refine zi_sipush hx hb dX2_strong_42 (by decide) ?_
        refine zi_sipush hx hb dX2_strong_45 (by decide) ?_
        refine zi_bipush hx hb dX2_strong_48 (by decide) ?_
        refine zcalli (va_runS (As := [.int (iI (v)), .int (iI (1200)), .int (iI (2500)), .int (iI (50))]) (rest := []) ⟨hx, hb, hml, hown, hts⟩ (c_X2_between l D cy A ad _ (v) (1200) (2500) (50) (by omega) (by omega) (by omega) (by omega) (by omega)) (va_cwS 4 hts gX2_strong_X2_between rfl rfl rfl (by decide +kernel) ⟨(Nat.le_of_ble_eq_true rfl), (Nat.le_of_ble_eq_true rfl)⟩) (zPS hE hS) rfl rfl hl.1 rfl (lv_room (Nat.le_of_ble_eq_true rfl)) dX2_strong_50 ⟨(Nat.le_of_ble_eq_true rfl), (Nat.le_of_ble_eq_true rfl)⟩) hS (fun z_50 H1 locs hz_50 hq hz1 hk1 hS => ?_)
        obtain ⟨hqe, hv_50⟩ := hq
        replace hqe := hqe.symm
        subst hqe
        simp only [Int.reduceSub, Int.sub_zero] at hv_50
        refine lv_goto (tgt := 87) hx hb dX2_strong_53 (by decide) ?_
        refine ziret hx hb hr hlocks hS (Nat.le_of_ble_eq_true rfl) (Nat.le_of_ble_eq_true rfl) (by first | decide | (constructor <;> omega)) ?_ dX2_strong_87
        refine ⟨rfl, ?_⟩
        unfold strg
        repeat' split
        all_goals omega
    · refine lv_iload_n hx hb dX2_strong_19 rfl (lv_at hl 0 rfl) ?_
      refine zi_sipush hx hb dX2_strong_20 (by decide) ?_
      refine zi_sipush hx hb dX2_strong_23 (by decide) ?_
      refine zi_bipush hx hb dX2_strong_26 (by decide) ?_
      refine zcalli (va_runS (As := [.int (iI (v)), .int (iI (2500)), .int (iI (5000)), .int (iI (75))]) (rest := []) ⟨hx, hb, hml, hown, hts⟩ (c_X2_between l D cy A ad _ (v) (2500) (5000) (75) (by omega) (by omega) (by omega) (by omega) (by omega)) (va_cwS 4 hts gX2_strong_X2_between rfl rfl rfl (by decide +kernel) ⟨(Nat.le_of_ble_eq_true rfl), (Nat.le_of_ble_eq_true rfl)⟩) (zPS hE hS) rfl rfl hl.1 rfl (lv_room (Nat.le_of_ble_eq_true rfl)) dX2_strong_28 ⟨(Nat.le_of_ble_eq_true rfl), (Nat.le_of_ble_eq_true rfl)⟩) hS (fun z_28 H1 locs hz_28 hq hz1 hk1 hS => ?_)
      obtain ⟨hqe, hv_28⟩ := hq
      replace hqe := hqe.symm
      subst hqe
      simp only [Int.reduceSub, Int.sub_zero] at hv_28
      refine lv_goto (tgt := 87) hx hb dX2_strong_31 (by decide) ?_
      refine ziret hx hb hr hlocks hS (Nat.le_of_ble_eq_true rfl) (Nat.le_of_ble_eq_true rfl) (by first | decide | (constructor <;> omega)) ?_ dX2_strong_87
      refine ⟨rfl, ?_⟩
      unfold strg
      repeat' split
      all_goals omega
  · refine zi_bipush hx hb dX2_strong_7 (by decide) ?_
    refine lv_goto (tgt := 87) hx hb dX2_strong_9 (by decide) ?_
    refine ziret hx hb hr hlocks hS (Nat.le_of_ble_eq_true rfl) (Nat.le_of_ble_eq_true rfl) (by first | decide | (constructor <;> omega)) ?_ dX2_strong_87
    refine ⟨rfl, ?_⟩
    unfold strg
    repeat' split
    all_goals omega

set_option maxHeartbeats 4000000 in
set_option maxRecDepth 100000 in
theorem c_X2_rate (l : Launch) (D : va_G) (cy : Nat → ClassId) (A : Nat → Prop) (ad : Nat → Nat) (mi : Nat → Int) (ma : Nat → Nat → Int) (H0 : Heap) (hw : zW D A ad (mE cy ad mi ma) H0) (hg : gOK mi) : Met l yX2_rate wsX2_rate ({ frames := 0, cells := 0, slots := 0, locals := 0 }) (zPc D cy A [.ref (ad 0)] H0) (zQi (fun z H1 => H1 = H0 ∧ z = min (mi 3) (mi 4)) A) 0 0 A := by
  refine Met.ofW (cc := cX2_rate) (maxL := 1) (ret := (some .int)) (by decide) rfl ?_
  intro pg en s mt args below meth c s₁ B hml hv
  obtain ⟨rfl, hH, hE⟩ := hv
  subst hH
  have hx := B.exec
  have hb := B.bytes
  have hr := B.returns
  have hts := atoms_spec (ws := wsX2_rate) B.pre
  have hown : s.vm.findClass RX2 = some mt.cls := findClass_of_methodNamed B.named
  have hlocks := B.notSynchronized
  have hinX2 : ∀ w ∈ u_ws RX2 TX2 19, w ∈ wsX2_rate := by decide +kernel
  have hS : va_S A s.heap s.heap [] := va_S.rf
  have hl := lv_entry ([.ref (ad 0)]) (n := 1) (Nat.le_of_ble_eq_true rfl)
  rw [lg_entry_eq]
  generalize (lg_sl ([.ref (ad 0)]) ++ List.replicate (1 - (lg_sl ([.ref (ad 0)])).length) Slot.unset).toArray = ls at hl ⊢
  have hl : lv_has ls 1 [(0, .ref (ad 0))] := hl
  obtain ⟨g1, g2, g3, g4, g5⟩ := id hg
  refine lv_aload_n hx hb dX2_rate_0 rfl (lv_at hl 0 rfl) ?_
  refine zget (C := RX2) (T := TX2) (N := 19) hx hb hts hinX2 hown hE hw 0 mE_0 rfl 3 (by decide) (hts (.fieldLink RX2 17 "FormworkYardModel" "trucks" "I") (by decide +kernel)) rfl dX2_rate_1 ?_
  refine lv_aload_n hx hb dX2_rate_4 rfl (lv_at hl 0 rfl) ?_
  refine zget (C := RX2) (T := TX2) (N := 19) hx hb hts hinX2 hown hE hw 0 mE_0 rfl 4 (by decide) (hts (.fieldLink RX2 20 "FormworkYardModel" "pump" "I") (by decide +kernel)) rfl dX2_rate_5 ?_
  refine zc_ge (tgt := 18) hx hb dX2_rate_8 (by decide) (by first | decide | (constructor <;> omega)) (by first | decide | (constructor <;> omega)) (fun c_8 => ?_) (fun c_8 => ?_)
  · refine lv_aload_n hx hb dX2_rate_18 rfl (lv_at hl 0 rfl) ?_
    refine zget (C := RX2) (T := TX2) (N := 19) hx hb hts hinX2 hown hE hw 0 mE_0 rfl 4 (by decide) (hts (.fieldLink RX2 20 "FormworkYardModel" "pump" "I") (by decide +kernel)) rfl dX2_rate_19 ?_
    refine ziret hx hb hr hlocks hS (Nat.le_of_ble_eq_true rfl) (Nat.le_of_ble_eq_true rfl) (by first | decide | (constructor <;> omega)) ?_ dX2_rate_22
    exact ⟨rfl, by omega⟩
  · refine lv_aload_n hx hb dX2_rate_11 rfl (lv_at hl 0 rfl) ?_
    refine zget (C := RX2) (T := TX2) (N := 19) hx hb hts hinX2 hown hE hw 0 mE_0 rfl 3 (by decide) (hts (.fieldLink RX2 17 "FormworkYardModel" "trucks" "I") (by decide +kernel)) rfl dX2_rate_12 ?_
    refine lv_goto (tgt := 22) hx hb dX2_rate_15 (by decide) ?_
    refine ziret hx hb hr hlocks hS (Nat.le_of_ble_eq_true rfl) (Nat.le_of_ble_eq_true rfl) (by first | decide | (constructor <;> omega)) ?_ dX2_rate_22
    exact ⟨rfl, by omega⟩

set_option maxHeartbeats 4000000 in
set_option maxRecDepth 100000 in
theorem c_X2_delays (l : Launch) (D : va_G) (cy : Nat → ClassId) (A : Nat → Prop) (ad : Nat → Nat) (mi : Nat → Int) (ma : Nat → Nat → Int) (H0 : Heap) (p : Nat) (hw : zW D A ad (mE cy ad mi ma) H0) (hp : p < 11) (hpo : pOK ma p) : Met l yX2_delays wsX2_delays ({ frames := 0, cells := 0, slots := 0, locals := 0 }) (zPc D cy A [.ref (ad 0), .int (iI ((p : Int)))] H0) (zQi (fun z H1 => H1 = H0 ∧ z = sl (fun k => ma 14 (4 * p + k)) (ma 12 p).toNat) A) 0 0 A := by
  refine Met.ofW (cc := cX2_delays) (maxL := 4) (ret := (some .int)) (by decide) rfl ?_
  intro pg en s mt args below meth c s₁ B hml hv
  obtain ⟨rfl, hH, hE⟩ := hv
  subst hH
  have hx := B.exec
  have hb := B.bytes
  have hr := B.returns
  have hts := atoms_spec (ws := wsX2_delays) B.pre
  have hown : s.vm.findClass RX2 = some mt.cls := findClass_of_methodNamed B.named
  have hlocks := B.notSynchronized
  have hinX2 : ∀ w ∈ u_ws RX2 TX2 19, w ∈ wsX2_delays := by decide +kernel
  have hS : va_S A s.heap s.heap [] := va_S.rf
  have hl := lv_entry ([.ref (ad 0), .int (iI ((p : Int)))]) (n := 4) (Nat.le_of_ble_eq_true rfl)
  rw [lg_entry_eq]
  generalize (lg_sl ([.ref (ad 0), .int (iI ((p : Int)))]) ++ List.replicate (4 - (lg_sl ([.ref (ad 0), .int (iI ((p : Int)))])).length) Slot.unset).toArray = ls at hl ⊢
  have hl : lv_has ls 4 [(0, .ref (ad 0)), (1, .int (iI ((p : Int))))] := hl
  obtain ⟨q1, q2, q3, q4, q5, q6⟩ := id hpo
  refine zi_const hx hb dX2_delays_0 ?_
  refine lv_istore_n (lv' := [(2, .int (iI (0))), (0, .ref (ad 0)), (1, .int (iI ((p : Int))))]) hx hb dX2_delays_1 rfl hl (by decide) rfl (fun ls hl => ?_)
  refine zi_const hx hb dX2_delays_2 ?_
  refine lv_istore_n (lv' := [(3, .int (iI (0))), (2, .int (iI (0))), (0, .ref (ad 0)), (1, .int (iI ((p : Int))))]) hx hb dX2_delays_3 rfl hl (by decide) rfl (fun ls hl => ?_)
  have loop_4 : ∀ (n : Nat) (k : Nat) (w : Int) (locs : List Loc) (ls : Array Slot), (ma 12 p).toNat - k < n → (k ≤ (ma 12 p).toNat) → (w = sl (fun k => ma 14 (4 * p + k)) k) → va_S A s.heap s.heap locs → lv_has ls 4 [(3, .int (iI ((k : Int)))), (2, .int (iI (w))), (0, .ref (ad 0)), (1, .int (iI ((p : Int))))] → W pg l en (headSpec wsX2_delays ({ frames := 0, cells := 0, slots := 0, locals := 0 })).room s mt ([.ref (ad 0), .int (iI ((p : Int)))] : List Value).toArray below meth c s.heap locs 0 0 (MQ below (zQi (fun z H1 => H1 = s.heap ∧ z = sl (fun k => ma 14 (4 * p + k)) (ma 12 p).toNat) A) ([.ref (ad 0), .int (iI ((p : Int)))] : List Value).toArray s 0 0 A) (F0 mt 4 ls []) := by
    intro n
    induction n with
    | zero =>
      intro k w locs ls hm hk hs
      exfalso; omega
    | succ n ih =>
      intro k w locs ls hm hk hs hS hl
      have hbb := sl_b (f := fun k => ma 14 (4 * p + k)) (a := 0) (b := 9) (n := k) (fun i hi => by have := q6 i (by omega); constructor <;> (try simp only []) <;> omega)
      refine lv_iload_n hx hb dX2_delays_4 rfl (lv_at hl 0 rfl) ?_
      refine lv_aload_n hx hb dX2_delays_5 rfl (lv_at hl 2 rfl) ?_
      refine zget (C := RX2) (T := TX2) (N := 19) hx hb hts hinX2 hown hE hw 0 mE_0 rfl 12 (by decide) (hts (.fieldLink RX2 45 "FormworkYardModel" "breakMany" "[I") (by decide +kernel)) rfl dX2_delays_6 ?_
      refine lv_iload_n hx hb dX2_delays_9 rfl (lv_at hl 3 rfl) ?_
      refine ziald hx hb hE hw 12 (mE_a 12 (by decide) rfl) p rfl (by omega) (by omega) dX2_delays_10 ?_
      refine zi_top (fun v_10 hv_10 => ?_)
      refine zc_ge (tgt := 33) hx hb dX2_delays_11 (by decide) (by first | decide | (constructor <;> omega)) (by first | decide | (constructor <;> omega)) (fun c_11 => ?_) (fun c_11 => ?_)
      · refine lv_iload_n hx hb dX2_delays_33 rfl (lv_at hl 1 rfl) ?_
        refine ziret hx hb hr hlocks hS (Nat.le_of_ble_eq_true rfl) (Nat.le_of_ble_eq_true rfl) (by first | decide | (constructor <;> omega)) ?_ dX2_delays_34
        exact ⟨rfl, by rw [hs, show k = (ma 12 p).toNat by omega]⟩
      · refine lv_iload_n hx hb dX2_delays_14 rfl (lv_at hl 1 rfl) ?_
        refine lv_aload_n hx hb dX2_delays_15 rfl (lv_at hl 2 rfl) ?_
        refine zget (C := RX2) (T := TX2) (N := 19) hx hb hts hinX2 hown hE hw 0 mE_0 rfl 14 (by decide) (hts (.fieldLink RX2 51 "FormworkYardModel" "lasts" "[I") (by decide +kernel)) rfl dX2_delays_16 ?_
        refine zi_const hx hb dX2_delays_19 ?_
        refine lv_iload_n hx hb dX2_delays_20 rfl (lv_at hl 3 rfl) ?_
        refine zi_mul hx hb dX2_delays_21 ?_
        refine lv_iload_n hx hb dX2_delays_22 rfl (lv_at hl 0 rfl) ?_
        refine zi_add hx hb dX2_delays_23 ?_
        refine ziald hx hb hE hw 14 (mE_a 14 (by decide) rfl) (4 * p + k) (by omega) (by omega) (by omega) dX2_delays_24 ?_
        refine zi_top (fun v_24 hv_24 => ?_)
        refine zi_add hx hb dX2_delays_25 ?_
        refine zi_top (fun x_26 hx_26 => ?_)
        refine lv_istore_n (lv' := [(2, .int (iI (x_26))), (3, .int (iI ((k : Int)))), (0, .ref (ad 0)), (1, .int (iI ((p : Int))))]) hx hb dX2_delays_26 rfl hl (by decide) rfl (fun ls hl => ?_)
        refine zi_iinc (lv' := [(3, .int (iI ((k : Int) + 1))), (2, .int (iI (x_26))), (0, .ref (ad 0)), (1, .int (iI ((p : Int))))]) hx hb dX2_delays_27 hl (k := 1) rfl (by decide) rfl (fun ls hl => ?_)
        refine lv_goto (tgt := 4) hx hb dX2_delays_30 (by decide) ?_
        exact ih (k + 1) x_26 _ _ (by omega) (by omega) (by simp only [sl]; omega) hS (lv_sub hl [0, 1, 2, 3] rfl)
  exact loop_4 ((ma 12 p).toNat + 1) 0 0 _ _ (by omega) (by omega) rfl hS (lv_sub hl [0, 1, 2, 3] rfl)

set_option maxHeartbeats 4000000 in
set_option maxRecDepth 100000 in
theorem c_X2_end (l : Launch) (D : va_G) (cy : Nat → ClassId) (A : Nat → Prop) (ad : Nat → Nat) (mi : Nat → Int) (ma : Nat → Nat → Int) (H0 : Heap) (p : Nat) (hw : zW D A ad (mE cy ad mi ma) H0) (hp : p < 11) (hg : gOK mi) (hpo : pOK ma p) : Met l yX2_end wsX2_end ({ frames := 1, cells := 0, slots := 0, locals := 23 }) (zPc D cy A [.ref (ad 0), .int (iI ((p : Int)))] H0) (zQi (fun z H1 => H1 = H0 ∧ z = endM mi ma p) A) 0 0 A := by
  refine Met.ofW (cc := cX2_end) (maxL := 2) (ret := (some .int)) (by decide) rfl ?_
  intro pg en s mt args below meth c s₁ B hml hv
  obtain ⟨rfl, hH, hE⟩ := hv
  subst hH
  have hx := B.exec
  have hb := B.bytes
  have hr := B.returns
  have hts := atoms_spec (ws := wsX2_end) B.pre
  have hown : s.vm.findClass RX2 = some mt.cls := findClass_of_methodNamed B.named
  have hlocks := B.notSynchronized
  have hinX2 : ∀ w ∈ u_ws RX2 TX2 19, w ∈ wsX2_end := by decide +kernel
  have hS : va_S A s.heap s.heap [] := va_S.rf
  have hl := lv_entry ([.ref (ad 0), .int (iI ((p : Int)))]) (n := 2) (Nat.le_of_ble_eq_true rfl)
  rw [lg_entry_eq]
  generalize (lg_sl ([.ref (ad 0), .int (iI ((p : Int)))]) ++ List.replicate (2 - (lg_sl ([.ref (ad 0), .int (iI ((p : Int)))])).length) Slot.unset).toArray = ls at hl ⊢
  have hl : lv_has ls 2 [(0, .ref (ad 0)), (1, .int (iI ((p : Int))))] := hl
  obtain ⟨q1, q2, q3, q4, q5, q6⟩ := id hpo
  obtain ⟨g1, g2, g3, g4, g5⟩ := id hg
  obtain ⟨e1, e2, e3, e4, e5, e6⟩ := endM_b hg hpo
  refine lv_aload_n hx hb dX2_end_0 rfl (lv_at hl 0 rfl) ?_
  refine zget (C := RX2) (T := TX2) (N := 19) hx hb hts hinX2 hown hE hw 0 mE_0 rfl 8 (by decide) (hts (.fieldLink RX2 33 "FormworkYardModel" "starts" "[I") (by decide +kernel)) rfl dX2_end_1 ?_
  refine lv_iload_n hx hb dX2_end_4 rfl (lv_at hl 1 rfl) ?_
  refine ziald hx hb hE hw 8 (mE_a 8 (by decide) rfl) p rfl (by omega) (by omega) dX2_end_5 ?_
  refine zi_top (fun v_5 hv_5 => ?_)
  refine lv_aload_n hx hb dX2_end_6 rfl (lv_at hl 0 rfl) ?_
  refine zget (C := RX2) (T := TX2) (N := 19) hx hb hts hinX2 hown hE hw 0 mE_0 rfl 9 (by decide) (hts (.fieldLink RX2 36 "FormworkYardModel" "volumes" "[I") (by decide +kernel)) rfl dX2_end_7 ?_
  refine lv_iload_n hx hb dX2_end_10 rfl (lv_at hl 1 rfl) ?_
  refine ziald hx hb hE hw 9 (mE_a 9 (by decide) rfl) p rfl (by omega) (by omega) dX2_end_11 ?_
  refine zi_top (fun v_11 hv_11 => ?_)
  refine lv_aload_n hx hb dX2_end_12 rfl (lv_at hl 0 rfl) ?_
  refine zcalli (va_runV (As := []) (rest := [.int (iI (v_11)), .int (iI (v_5))]) ⟨hx, hb, hml, hown, hts⟩ (c_X2_rate l D cy A ad mi ma _ hw hg) (cwV 0 hts gX2_end_X2_rate rfl rfl rfl (by decide +kernel) ⟨(Nat.le_of_ble_eq_true rfl), (Nat.le_of_ble_eq_true rfl)⟩) (zPV hE hS hw (ci := 2) (k0 := 0) rfl mE_0) rfl rfl hl.1 rfl (lv_room (Nat.le_of_ble_eq_true rfl)) dX2_end_13 ⟨(Nat.le_of_ble_eq_true rfl), (Nat.le_of_ble_eq_true rfl)⟩) hS (fun z_13 H1 locs hz_13 hq hz1 hk1 hS => ?_)
  obtain ⟨hqe, hv_13⟩ := hq
  replace hqe := hqe.symm
  subst hqe
  refine zi_add hx hb dX2_end_16 ?_
  refine zi_const hx hb dX2_end_17 ?_
  refine zi_sub hx hb dX2_end_18 ?_
  refine lv_aload_n hx hb dX2_end_19 rfl (lv_at hl 0 rfl) ?_
  refine zcalli (va_runV (As := []) (rest := [.int (iI ((v_11 + z_13) - 1)), .int (iI (v_5))]) ⟨hx, hb, hml, hown, hts⟩ (c_X2_rate l D cy A ad mi ma _ hw hg) (cwV 0 hts gX2_end_X2_rate rfl rfl rfl (by decide +kernel) ⟨(Nat.le_of_ble_eq_true rfl), (Nat.le_of_ble_eq_true rfl)⟩) (zPV hE hS hw (ci := 2) (k0 := 0) rfl mE_0) rfl rfl hl.1 rfl (lv_room (Nat.le_of_ble_eq_true rfl)) dX2_end_20 ⟨(Nat.le_of_ble_eq_true rfl), (Nat.le_of_ble_eq_true rfl)⟩) hS (fun z_20 H1 locs hz_20 hq hz1 hk1 hS => ?_)
  obtain ⟨hqe, hv_20⟩ := hq
  replace hqe := hqe.symm
  subst hqe
  refine zi_div hx hb dX2_end_23 (by omega) (by omega) (by omega) (by omega) ?_
  refine zi_add hx hb dX2_end_24 ?_
  refine lv_aload_n hx hb dX2_end_25 rfl (lv_at hl 0 rfl) ?_
  refine lv_iload_n hx hb dX2_end_26 rfl (lv_at hl 1 rfl) ?_
  refine zcalli (va_runV (As := [.int (iI ((p : Int)))]) (rest := [.int (iI (v_5 + (((v_11 + z_13) - 1) / z_20)))]) ⟨hx, hb, hml, hown, hts⟩ (c_X2_delays l D cy A ad mi ma _ p hw (by omega) hpo) (cwV 1 hts gX2_end_X2_delays rfl rfl rfl (by decide +kernel) ⟨(Nat.le_of_ble_eq_true rfl), (Nat.le_of_ble_eq_true rfl)⟩) (zPV hE hS hw (ci := 2) (k0 := 0) rfl mE_0) rfl rfl hl.1 rfl (lv_room (Nat.le_of_ble_eq_true rfl)) dX2_end_27 ⟨(Nat.le_of_ble_eq_true rfl), (Nat.le_of_ble_eq_true rfl)⟩) hS (fun z_27 H1 locs hz_27 hq hz1 hk1 hS => ?_)
  obtain ⟨hqe, hv_27⟩ := hq
  replace hqe := hqe.symm
  subst hqe
  have hE2 : v_5 + (v_11 + z_13 - 1) / z_20 + z_27 = endM mi ma p := by rw [hv_5, hv_11, hv_13, hv_20, hv_27]; rfl
  have hE3 : (v_11 + z_13 - 1) / z_20 = (ma 9 p + min (mi 3) (mi 4) - 1) / min (mi 3) (mi 4) := by rw [hv_11, hv_13, hv_20]
  refine zi_add hx hb dX2_end_30 ?_
  refine ziret hx hb hr hlocks hS (Nat.le_of_ble_eq_true rfl) (Nat.le_of_ble_eq_true rfl) (by first | decide | (constructor <;> omega)) ?_ dX2_end_31
  exact ⟨rfl, hE2⟩

set_option maxHeartbeats 4000000 in
set_option maxRecDepth 100000 in
theorem c_X2_works (l : Launch) (D : va_G) (cy : Nat → ClassId) (A : Nat → Prop) (ad : Nat → Nat) (mi : Nat → Int) (ma : Nat → Nat → Int) (H0 : Heap) (p : Nat) (hw : zW D A ad (mE cy ad mi ma) H0) (hp : p < 11) (ht : tOK (ma 1)) (hg : gOK mi) (hpo : pOK ma p) : Met l yX2_works wsX2_works ({ frames := 3, cells := 0, slots := 0, locals := 64 }) (zPc D cy A [.ref (ad 0), .int (iI ((p : Int)))] H0) (zQv (fun H1 => ∃ mb, zW D A ad (mE cy ad mi mb) H1 ∧ wU p ma mb ∧ wV mi ma p mb) A) 0 0 A := by
  refine Met.ofW (cc := cX2_works) (maxL := 4) (ret := none) (by decide) rfl ?_
  intro pg en s mt args below meth c s₁ B hml hv
  obtain ⟨rfl, hH, hE⟩ := hv
  subst hH
  have hx := B.exec
  have hb := B.bytes
  have hr := B.returns
  have hts := atoms_spec (ws := wsX2_works) B.pre
  have hown : s.vm.findClass RX2 = some mt.cls := findClass_of_methodNamed B.named
  have hlocks := B.notSynchronized
  have hinX2 : ∀ w ∈ u_ws RX2 TX2 19, w ∈ wsX2_works := by decide +kernel
  have hS : va_S A s.heap s.heap [] := va_S.rf
  have hl := lv_entry ([.ref (ad 0), .int (iI ((p : Int)))]) (n := 4) (Nat.le_of_ble_eq_true rfl)
  rw [lg_entry_eq]
  generalize (lg_sl ([.ref (ad 0), .int (iI ((p : Int)))]) ++ List.replicate (4 - (lg_sl ([.ref (ad 0), .int (iI ((p : Int)))])).length) Slot.unset).toArray = ls at hl ⊢
  have hl : lv_has ls 4 [(0, .ref (ad 0)), (1, .int (iI ((p : Int))))] := hl
  obtain ⟨q1, q2, q3, q4, q5, q6⟩ := id hpo
  obtain ⟨g1, g2, g3, g4, g5⟩ := id hg
  obtain ⟨e1, e2, e3, e4, e5, e6⟩ := endM_b hg hpo
  refine lv_aload_n hx hb dX2_works_0 rfl (lv_at hl 0 rfl) ?_
  refine zget (C := RX2) (T := TX2) (N := 19) hx hb hts hinX2 hown hE hw 0 mE_0 rfl 15 (by decide) (hts (.fieldLink RX2 54 "FormworkYardModel" "stands" "[I") (by decide +kernel)) rfl dX2_works_1 ?_
  refine lv_iload_n hx hb dX2_works_4 rfl (lv_at hl 1 rfl) ?_
  refine lv_aload_n hx hb dX2_works_5 rfl (lv_at hl 0 rfl) ?_
  refine zget (C := RX2) (T := TX2) (N := 19) hx hb hts hinX2 hown hE hw 0 mE_0 rfl 8 (by decide) (hts (.fieldLink RX2 33 "FormworkYardModel" "starts" "[I") (by decide +kernel)) rfl dX2_works_6 ?_
  refine lv_iload_n hx hb dX2_works_9 rfl (lv_at hl 1 rfl) ?_
  refine ziald hx hb hE hw 8 (mE_a 8 (by decide) rfl) p rfl (by omega) (by omega) dX2_works_10 ?_
  refine zi_top (fun v_10 hv_10 => ?_)
  refine lv_aload_n hx hb dX2_works_11 rfl (lv_at hl 0 rfl) ?_
  refine zget (C := RX2) (T := TX2) (N := 19) hx hb hts hinX2 hown hE hw 0 mE_0 rfl 5 (by decide) (hts (.fieldLink RX2 23 "FormworkYardModel" "setUp" "I") (by decide +kernel)) rfl dX2_works_12 ?_
  refine zc_ge (tgt := 22) hx hb dX2_works_15 (by decide) (by first | decide | (constructor <;> omega)) (by first | decide | (constructor <;> omega)) (fun c_15 => ?_) (fun c_15 => ?_)
  · refine lv_aload_n hx hb dX2_works_22 rfl (lv_at hl 0 rfl) ?_
    refine zget (C := RX2) (T := TX2) (N := 19) hx hb hts hinX2 hown hE hw 0 mE_0 rfl 8 (by decide) (hts (.fieldLink RX2 33 "FormworkYardModel" "starts" "[I") (by decide +kernel)) rfl dX2_works_23 ?_
    refine lv_iload_n hx hb dX2_works_26 rfl (lv_at hl 1 rfl) ?_
    refine ziald hx hb hE hw 8 (mE_a 8 (by decide) rfl) p rfl (by omega) (by omega) dX2_works_27 ?_
    refine zi_top (fun v_27 hv_27 => ?_)
    refine lv_aload_n hx hb dX2_works_28 rfl (lv_at hl 0 rfl) ?_
    refine zget (C := RX2) (T := TX2) (N := 19) hx hb hts hinX2 hown hE hw 0 mE_0 rfl 5 (by decide) (hts (.fieldLink RX2 23 "FormworkYardModel" "setUp" "I") (by decide +kernel)) rfl dX2_works_29 ?_
    refine zi_sub hx hb dX2_works_32 ?_
    refine ziast hx hb hE hS hw 15 (mE_a 15 (by decide) rfl) p rfl (by omega) (by omega) dX2_works_33 (fun H locs hw hS => ?_)
    have hw := hw.cong (mU_a 15 (by decide) rfl (p) (v_27 - (mi 5)))
    obtain ⟨ma_1, hma_1⟩ : ∃ z : Nat → Nat → Int, z = (va_up ma 15 (va_up (ma 15) (p) (v_27 - (mi 5)))) := ⟨_, rfl⟩
    rw [← hma_1] at hw
    refine lv_aload_n hx hb dX2_works_34 rfl (lv_at hl 0 rfl) ?_
    refine zget (C := RX2) (T := TX2) (N := 19) hx hb hts hinX2 hown hE hw 0 mE_0 rfl 16 (by decide) (hts (.fieldLink RX2 57 "FormworkYardModel" "strikes" "[I") (by decide +kernel)) rfl dX2_works_35 ?_
    refine lv_iload_n hx hb dX2_works_38 rfl (lv_at hl 1 rfl) ?_
    refine zi_const hx hb dX2_works_39 ?_
    refine ziast hx hb hE hS hw 16 (mE_a 16 (by decide) rfl) p rfl (by omega) (by omega) dX2_works_40 (fun H locs hw hS => ?_)
    have hw := hw.cong (mU_a 16 (by decide) rfl (p) ((-1)))
    obtain ⟨ma_2, hma_2⟩ : ∃ z : Nat → Nat → Int, z = (va_up ma_1 16 (va_up (ma_1 16) (p) ((-1)))) := ⟨_, rfl⟩
    rw [← hma_2] at hw
    refine zi_const hx hb dX2_works_41 ?_
    refine lv_istore_n (lv' := [(2, .int (iI (0))), (0, .ref (ad 0)), (1, .int (iI ((p : Int))))]) hx hb dX2_works_42 rfl hl (by decide) rfl (fun ls hl => ?_)
    have hA1 := rU_s (k := 15) (p := p) rU_r hma_1
    have hB1 := rU_s (k := 16) (p := p) rU_r hma_2
    have hrow : ∀ r, r ≠ 15 → r ≠ 16 → ma_2 r = ma r := fun r h1 h2 => (rU_row hB1.1 h2).trans (rU_row hA1.1 h1)
    have hpo2 : pOK ma_2 p := (pOK_c (hrow 8 (by decide) (by decide)) (hrow 9 (by decide) (by decide)) (hrow 10 (by decide) (by decide)) (hrow 11 (by decide) (by decide)) (hrow 12 (by decide) (by decide)) (hrow 13 (by decide) (by decide)) (hrow 14 (by decide) (by decide))).mpr hpo
    refine lv_aload_n hx hb dX2_works_43 rfl (lv_at hl 1 rfl) ?_
    refine lv_iload_n hx hb dX2_works_44 rfl (lv_at hl 2 rfl) ?_
    refine zcalli (va_runV (As := [.int (iI ((p : Int)))]) (rest := []) ⟨hx, hb, hml, hown, hts⟩ (c_X2_end l D cy A ad mi ma_2 _ p hw (by omega) hg hpo2) (cwV 1 hts gX2_works_X2_end rfl rfl rfl (by decide +kernel) ⟨(Nat.le_of_ble_eq_true rfl), (Nat.le_of_ble_eq_true rfl)⟩) (zPV hE hS hw (ci := 2) (k0 := 0) rfl mE_0) rfl rfl hl.1 rfl (lv_room (Nat.le_of_ble_eq_true rfl)) dX2_works_45 ⟨(Nat.le_of_ble_eq_true rfl), (Nat.le_of_ble_eq_true rfl)⟩) hS (fun z_45 H1 locs hz_45 hq hz1 hk1 hS => ?_)
    obtain ⟨hqe, hv_45⟩ := hq
    replace hqe := hqe.symm
    subst hqe
    have hE45 : z_45 = endM mi ma p := hv_45.trans (endM_c (hrow 8 (by decide) (by decide)) (hrow 9 (by decide) (by decide)) (hrow 12 (by decide) (by decide)) (hrow 14 (by decide) (by decide)))
    refine lv_istore_n (lv' := [(3, .int (iI (z_45))), (2, .int (iI (0))), (0, .ref (ad 0)), (1, .int (iI ((p : Int))))]) hx hb dX2_works_48 rfl hl (by decide) rfl (fun ls hl => ?_)
    have loop_49 : ∀ (n : Nat) (h w : Int) (mb : Nat → Nat → Int) (H : Heap) (locs : List Loc) (ls : Array Slot), (1000 - h).toNat < n → (rU 16 p ma_2 mb) → (endM mi ma p ≤ h) → (h ≤ max (endM mi ma p) 1000) → (w = mat (ma 1) (endM mi ma p) h) → ((mb 16 p = -1 ∧ fnd (fun x => ma 11 p ≤ strg (mat (ma 1) (endM mi ma p) x)) h (1000 - h).toNat = strikeS (ma 1) (ma 11 p) (endM mi ma p)) ∨ (0 ≤ mb 16 p ∧ mb 16 p < 1000 ∧ mb 16 p = strikeS (ma 1) (ma 11 p) (endM mi ma p))) → zW D A ad (mE cy ad mi mb) H → va_S A s.heap H locs → lv_has ls 4 [(3, .int (iI (h))), (2, .int (iI (w))), (0, .ref (ad 0)), (1, .int (iI ((p : Int))))] → W pg l en (headSpec wsX2_works ({ frames := 3, cells := 0, slots := 0, locals := 64 })).room s mt ([.ref (ad 0), .int (iI ((p : Int)))] : List Value).toArray below meth c H locs 0 0 (MQ below (zQv (fun H1 => ∃ mb, zW D A ad (mE cy ad mi mb) H1 ∧ wU p ma mb ∧ wV mi ma p mb) A) ([.ref (ad 0), .int (iI ((p : Int)))] : List Value).toArray s 0 0 A) (F0 mt 49 ls []) := by
      intro n
      induction n with
      | zero =>
        intro h w mb H locs ls hm hU hi hj hk hs
        exfalso; omega
      | succ n ih =>
        intro h w mb H locs ls hm hU hi hj hk hs hw hS hl
        have hmb := mat_b ht (endM mi ma p) h
        have hr1 : mb 1 = ma 1 := (rU_row hU (by decide)).trans (hrow 1 (by decide) (by decide))
        have hr11 : mb 11 = ma 11 := (rU_row hU (by decide)).trans (hrow 11 (by decide) (by decide))
        have ht2 : tOK (mb 1) := by rw [hr1]; exact ht
        have hst := strg_b hmb.1
        refine lv_iload_n hx hb dX2_works_49 rfl (lv_at hl 0 rfl) ?_
        refine zi_sipush hx hb dX2_works_50 (by decide) ?_
        refine zc_ge (tgt := 104) hx hb dX2_works_53 (by decide) (by first | decide | (constructor <;> omega)) (by first | decide | (constructor <;> omega)) (fun c_53 => ?_) (fun c_53 => ?_)
        · have hfin : (mb 16 p = -1 ∧ 1000 ≤ strikeS (ma 1) (ma 11 p) (endM mi ma p)) ∨ (0 ≤ mb 16 p ∧ mb 16 p < 1000 ∧ mb 16 p = strikeS (ma 1) (ma 11 p) (endM mi ma p)) := by rcases hs with hs | hs; have h2 := hs.2; rw [fnd_e _ (by omega)] at h2; omega; omega
          have hm6 : 0 ≤ mi 6 ∧ mi 6 ≤ 24 := by omega
          refine lv_aload_n hx hb dX2_works_104 rfl (lv_at hl 2 rfl) ?_
          refine zget (C := RX2) (T := TX2) (N := 19) hx hb hts hinX2 hown hE hw 0 mE_0 rfl 17 (by decide) (hts (.fieldLink RX2 60 "FormworkYardModel" "frees" "[I") (by decide +kernel)) rfl dX2_works_105 ?_
          refine lv_iload_n hx hb dX2_works_108 rfl (lv_at hl 3 rfl) ?_
          refine lv_aload_n hx hb dX2_works_109 rfl (lv_at hl 2 rfl) ?_
          refine zget (C := RX2) (T := TX2) (N := 19) hx hb hts hinX2 hown hE hw 0 mE_0 rfl 16 (by decide) (hts (.fieldLink RX2 57 "FormworkYardModel" "strikes" "[I") (by decide +kernel)) rfl dX2_works_110 ?_
          refine lv_iload_n hx hb dX2_works_113 rfl (lv_at hl 3 rfl) ?_
          refine ziald hx hb hE hw 16 (mE_a 16 (by decide) rfl) p rfl (by omega) (by omega) dX2_works_114 ?_
          refine zi_top (fun v_114 hv_114 => ?_)
          refine zi_const hx hb dX2_works_115 ?_
          refine zc_ne (tgt := 125) hx hb dX2_works_116 (by decide) (by first | decide | (constructor <;> omega)) (by first | decide | (constructor <;> omega)) (fun c_116 => ?_) (fun c_116 => ?_)
          · refine lv_aload_n hx hb dX2_works_125 rfl (lv_at hl 2 rfl) ?_
            refine zget (C := RX2) (T := TX2) (N := 19) hx hb hts hinX2 hown hE hw 0 mE_0 rfl 16 (by decide) (hts (.fieldLink RX2 57 "FormworkYardModel" "strikes" "[I") (by decide +kernel)) rfl dX2_works_126 ?_
            refine lv_iload_n hx hb dX2_works_129 rfl (lv_at hl 3 rfl) ?_
            refine ziald hx hb hE hw 16 (mE_a 16 (by decide) rfl) p rfl (by omega) (by omega) dX2_works_130 ?_
            refine zi_top (fun v_130 hv_130 => ?_)
            refine lv_aload_n hx hb dX2_works_131 rfl (lv_at hl 2 rfl) ?_
            refine zget (C := RX2) (T := TX2) (N := 19) hx hb hts hinX2 hown hE hw 0 mE_0 rfl 6 (by decide) (hts (.fieldLink RX2 26 "FormworkYardModel" "cleaning" "I") (by decide +kernel)) rfl dX2_works_132 ?_
            refine zi_add hx hb dX2_works_135 ?_
            refine ziast hx hb hE hS hw 17 (mE_a 17 (by decide) rfl) p rfl (by omega) (by omega) dX2_works_136 (fun H locs hw hS => ?_)
            have hw := hw.cong (mU_a 17 (by decide) rfl (p) (v_130 + (mi 6)))
            obtain ⟨ma_3, hma_3⟩ : ∃ z : Nat → Nat → Int, z = (va_up mb 17 (va_up (mb 17) (p) (v_130 + (mi 6)))) := ⟨_, rfl⟩
            rw [← hma_3] at hw
            refine zvret hx hb hr hlocks hS (Nat.le_of_ble_eq_true rfl) (Nat.le_of_ble_eq_true rfl) ?_ dX2_works_137
            have hC1 := rU_s (k := 17) (p := p) rU_r hma_3
            refine ⟨_, hw, fun r j hj => ?_, ?_, ?_, ?_⟩
            · rw [hC1.1 r j (by omega), hU r j (by omega), hB1.1 r j (by omega), hA1.1 r j (by omega)]
            · rw [hC1.1 15 p (by omega), hU 15 p (by omega), hB1.1 15 p (by omega), hA1.2]; unfold standS; split <;> omega
            · rw [hC1.1 16 p (by omega)]; split <;> omega
            · rw [hC1.2]; unfold freeS; split <;> omega
          · refine zi_sipush hx hb dX2_works_119 (by decide) ?_
            refine lv_goto (tgt := 136) hx hb dX2_works_122 (by decide) ?_
            refine ziast hx hb hE hS hw 17 (mE_a 17 (by decide) rfl) p rfl (by omega) (by omega) dX2_works_136 (fun H locs hw hS => ?_)
            have hw := hw.cong (mU_a 17 (by decide) rfl (p) (1000))
            obtain ⟨ma_4, hma_4⟩ : ∃ z : Nat → Nat → Int, z = (va_up mb 17 (va_up (mb 17) (p) (1000))) := ⟨_, rfl⟩
            rw [← hma_4] at hw
            refine zvret hx hb hr hlocks hS (Nat.le_of_ble_eq_true rfl) (Nat.le_of_ble_eq_true rfl) ?_ dX2_works_137
            have hC1 := rU_s (k := 17) (p := p) rU_r hma_4
            refine ⟨_, hw, fun r j hj => ?_, ?_, ?_, ?_⟩
            · rw [hC1.1 r j (by omega), hU r j (by omega), hB1.1 r j (by omega), hA1.1 r j (by omega)]
            · rw [hC1.1 15 p (by omega), hU 15 p (by omega), hB1.1 15 p (by omega), hA1.2]; unfold standS; split <;> omega
            · rw [hC1.1 16 p (by omega)]; split <;> omega
            · rw [hC1.2]; unfold freeS; split <;> omega
        · refine lv_aload_n hx hb dX2_works_56 rfl (lv_at hl 2 rfl) ?_
          refine zget (C := RX2) (T := TX2) (N := 19) hx hb hts hinX2 hown hE hw 0 mE_0 rfl 16 (by decide) (hts (.fieldLink RX2 57 "FormworkYardModel" "strikes" "[I") (by decide +kernel)) rfl dX2_works_57 ?_
          refine lv_iload_n hx hb dX2_works_60 rfl (lv_at hl 3 rfl) ?_
          refine ziald hx hb hE hw 16 (mE_a 16 (by decide) rfl) p rfl (by omega) (by omega) dX2_works_61 ?_
          refine zi_top (fun v_61 hv_61 => ?_)
          refine zi_const hx hb dX2_works_62 ?_
          refine zc_ne (tgt := 104) hx hb dX2_works_63 (by decide) (by first | decide | (constructor <;> omega)) (by first | decide | (constructor <;> omega)) (fun c_63 => ?_) (fun c_63 => ?_)
          · have hfin : (mb 16 p = -1 ∧ 1000 ≤ strikeS (ma 1) (ma 11 p) (endM mi ma p)) ∨ (0 ≤ mb 16 p ∧ mb 16 p < 1000 ∧ mb 16 p = strikeS (ma 1) (ma 11 p) (endM mi ma p)) := by rcases hs with hs | hs; omega; omega
            have hm6 : 0 ≤ mi 6 ∧ mi 6 ≤ 24 := by omega
            refine lv_aload_n hx hb dX2_works_104 rfl (lv_at hl 2 rfl) ?_
            refine zget (C := RX2) (T := TX2) (N := 19) hx hb hts hinX2 hown hE hw 0 mE_0 rfl 17 (by decide) (hts (.fieldLink RX2 60 "FormworkYardModel" "frees" "[I") (by decide +kernel)) rfl dX2_works_105 ?_
            refine lv_iload_n hx hb dX2_works_108 rfl (lv_at hl 3 rfl) ?_
            refine lv_aload_n hx hb dX2_works_109 rfl (lv_at hl 2 rfl) ?_
            refine zget (C := RX2) (T := TX2) (N := 19) hx hb hts hinX2 hown hE hw 0 mE_0 rfl 16 (by decide) (hts (.fieldLink RX2 57 "FormworkYardModel" "strikes" "[I") (by decide +kernel)) rfl dX2_works_110 ?_
            refine lv_iload_n hx hb dX2_works_113 rfl (lv_at hl 3 rfl) ?_
            refine ziald hx hb hE hw 16 (mE_a 16 (by decide) rfl) p rfl (by omega) (by omega) dX2_works_114 ?_
            refine zi_top (fun v_114 hv_114 => ?_)
            refine zi_const hx hb dX2_works_115 ?_
            refine zc_ne (tgt := 125) hx hb dX2_works_116 (by decide) (by first | decide | (constructor <;> omega)) (by first | decide | (constructor <;> omega)) (fun c_116 => ?_) (fun c_116 => ?_)
            · refine lv_aload_n hx hb dX2_works_125 rfl (lv_at hl 2 rfl) ?_
              refine zget (C := RX2) (T := TX2) (N := 19) hx hb hts hinX2 hown hE hw 0 mE_0 rfl 16 (by decide) (hts (.fieldLink RX2 57 "FormworkYardModel" "strikes" "[I") (by decide +kernel)) rfl dX2_works_126 ?_
              refine lv_iload_n hx hb dX2_works_129 rfl (lv_at hl 3 rfl) ?_
              refine ziald hx hb hE hw 16 (mE_a 16 (by decide) rfl) p rfl (by omega) (by omega) dX2_works_130 ?_
              refine zi_top (fun v_130 hv_130 => ?_)
              refine lv_aload_n hx hb dX2_works_131 rfl (lv_at hl 2 rfl) ?_
              refine zget (C := RX2) (T := TX2) (N := 19) hx hb hts hinX2 hown hE hw 0 mE_0 rfl 6 (by decide) (hts (.fieldLink RX2 26 "FormworkYardModel" "cleaning" "I") (by decide +kernel)) rfl dX2_works_132 ?_
              refine zi_add hx hb dX2_works_135 ?_
              refine ziast hx hb hE hS hw 17 (mE_a 17 (by decide) rfl) p rfl (by omega) (by omega) dX2_works_136 (fun H locs hw hS => ?_)
              have hw := hw.cong (mU_a 17 (by decide) rfl (p) (v_130 + (mi 6)))
              obtain ⟨ma_5, hma_5⟩ : ∃ z : Nat → Nat → Int, z = (va_up mb 17 (va_up (mb 17) (p) (v_130 + (mi 6)))) := ⟨_, rfl⟩
              rw [← hma_5] at hw
              refine zvret hx hb hr hlocks hS (Nat.le_of_ble_eq_true rfl) (Nat.le_of_ble_eq_true rfl) ?_ dX2_works_137
              have hC1 := rU_s (k := 17) (p := p) rU_r hma_5
              refine ⟨_, hw, fun r j hj => ?_, ?_, ?_, ?_⟩
              · rw [hC1.1 r j (by omega), hU r j (by omega), hB1.1 r j (by omega), hA1.1 r j (by omega)]
              · rw [hC1.1 15 p (by omega), hU 15 p (by omega), hB1.1 15 p (by omega), hA1.2]; unfold standS; split <;> omega
              · rw [hC1.1 16 p (by omega)]; split <;> omega
              · rw [hC1.2]; unfold freeS; split <;> omega
            · refine zi_sipush hx hb dX2_works_119 (by decide) ?_
              refine lv_goto (tgt := 136) hx hb dX2_works_122 (by decide) ?_
              refine ziast hx hb hE hS hw 17 (mE_a 17 (by decide) rfl) p rfl (by omega) (by omega) dX2_works_136 (fun H locs hw hS => ?_)
              have hw := hw.cong (mU_a 17 (by decide) rfl (p) (1000))
              obtain ⟨ma_6, hma_6⟩ : ∃ z : Nat → Nat → Int, z = (va_up mb 17 (va_up (mb 17) (p) (1000))) := ⟨_, rfl⟩
              rw [← hma_6] at hw
              refine zvret hx hb hr hlocks hS (Nat.le_of_ble_eq_true rfl) (Nat.le_of_ble_eq_true rfl) ?_ dX2_works_137
              have hC1 := rU_s (k := 17) (p := p) rU_r hma_6
              refine ⟨_, hw, fun r j hj => ?_, ?_, ?_, ?_⟩
              · rw [hC1.1 r j (by omega), hU r j (by omega), hB1.1 r j (by omega), hA1.1 r j (by omega)]
              · rw [hC1.1 15 p (by omega), hU 15 p (by omega), hB1.1 15 p (by omega), hA1.2]; unfold standS; split <;> omega
              · rw [hC1.1 16 p (by omega)]; split <;> omega
              · rw [hC1.2]; unfold freeS; split <;> omega
          · refine lv_aload_n hx hb dX2_works_66 rfl (lv_at hl 2 rfl) ?_
            refine zget (C := RX2) (T := TX2) (N := 19) hx hb hts hinX2 hown hE hw 0 mE_0 rfl 16 (by decide) (hts (.fieldLink RX2 57 "FormworkYardModel" "strikes" "[I") (by decide +kernel)) rfl dX2_works_67 ?_
            refine lv_iload_n hx hb dX2_works_70 rfl (lv_at hl 3 rfl) ?_
            refine lv_iload_n hx hb dX2_works_71 rfl (lv_at hl 1 rfl) ?_
            refine zcalli (va_runS (As := [.int (iI (w))]) (rest := [.int (iI ((p : Int))), .ref (ad 16)]) ⟨hx, hb, hml, hown, hts⟩ (c_X2_strong l D cy A ad _ (w) (by omega)) (va_cwS 1 hts gX2_works_X2_strong rfl rfl rfl (by decide +kernel) ⟨(Nat.le_of_ble_eq_true rfl), (Nat.le_of_ble_eq_true rfl)⟩) (zPS hE hS) rfl rfl hl.1 rfl (lv_room (Nat.le_of_ble_eq_true rfl)) dX2_works_72 ⟨(Nat.le_of_ble_eq_true rfl), (Nat.le_of_ble_eq_true rfl)⟩) hS (fun z_72 H1 locs hz_72 hq hz1 hk1 hS => ?_)
            obtain ⟨hqe, hv_72⟩ := hq
            replace hqe := hqe.symm
            subst hqe
            refine lv_aload_n hx hb dX2_works_75 rfl (lv_at hl 2 rfl) ?_
            refine zget (C := RX2) (T := TX2) (N := 19) hx hb hts hinX2 hown hE hw 0 mE_0 rfl 11 (by decide) (hts (.fieldLink RX2 42 "FormworkYardModel" "wanted" "[I") (by decide +kernel)) rfl dX2_works_76 ?_
            refine lv_iload_n hx hb dX2_works_79 rfl (lv_at hl 3 rfl) ?_
            refine ziald hx hb hE hw 11 (mE_a 11 (by decide) rfl) p rfl (by omega) (by omega) dX2_works_80 ?_
            refine zi_top (fun v_80 hv_80 => ?_)
            rw [hr11] at hv_80
            refine zc_lt (tgt := 88) hx hb dX2_works_81 (by decide) (by first | decide | (constructor <;> omega)) (by first | decide | (constructor <;> omega)) (fun c_81 => ?_) (fun c_81 => ?_)
            · refine zi_const hx hb dX2_works_88 ?_
              refine ziast hx hb hE hS hw 16 (mE_a 16 (by decide) rfl) p rfl (by omega) (by omega) dX2_works_89 (fun H locs hw hS => ?_)
              have hw := hw.cong (mU_a 16 (by decide) rfl (p) ((-1)))
              obtain ⟨ma_7, hma_7⟩ : ∃ z : Nat → Nat → Int, z = (va_up mb 16 (va_up (mb 16) (p) ((-1)))) := ⟨_, rfl⟩
              rw [← hma_7] at hw
              have ht3 : tOK (ma_7 1) := by rw [rU_row (rU_s hU hma_7).1 (show (1:Nat) ≠ 16 by decide), hrow 1 (by decide) (by decide)]; exact ht
              refine lv_iload_n hx hb dX2_works_90 rfl (lv_at hl 1 rfl) ?_
              refine lv_aload_n hx hb dX2_works_91 rfl (lv_at hl 2 rfl) ?_
              refine lv_iload_n hx hb dX2_works_92 rfl (lv_at hl 0 rfl) ?_
              refine zcalli (va_runV (As := [.int (iI (h))]) (rest := [.int (iI (w))]) ⟨hx, hb, hml, hown, hts⟩ (c_X2_gain l D cy A ad mi ma_7 _ (h) hw (by first | decide | (constructor <;> omega)) ht3) (cwV 1 hts gX2_works_X2_gain rfl rfl rfl (by decide +kernel) ⟨(Nat.le_of_ble_eq_true rfl), (Nat.le_of_ble_eq_true rfl)⟩) (zPV hE hS hw (ci := 2) (k0 := 0) rfl mE_0) rfl rfl hl.1 rfl (lv_room (Nat.le_of_ble_eq_true rfl)) dX2_works_93 ⟨(Nat.le_of_ble_eq_true rfl), (Nat.le_of_ble_eq_true rfl)⟩) hS (fun z_93 H1 locs hz_93 hq hz1 hk1 hS => ?_)
              obtain ⟨hqe, hv_93⟩ := hq
              replace hqe := hqe.symm
              subst hqe
              refine zi_add hx hb dX2_works_96 ?_
              refine zi_top (fun x_97 hx_97 => ?_)
              refine lv_istore_n (lv' := [(2, .int (iI (x_97))), (3, .int (iI (h))), (0, .ref (ad 0)), (1, .int (iI ((p : Int))))]) hx hb dX2_works_97 rfl hl (by decide) rfl (fun ls hl => ?_)
              refine zi_iinc (lv' := [(3, .int (iI (h + 1))), (2, .int (iI (x_97))), (0, .ref (ad 0)), (1, .int (iI ((p : Int))))]) hx hb dX2_works_98 hl (k := 1) rfl (by decide) rfl (fun ls hl => ?_)
              refine lv_goto (tgt := 49) hx hb dX2_works_101 (by decide) ?_
              have hS1 := rU_s hU hma_7
              have hgA := gAt_b ht h
              have hr1b : ma_7 1 = ma 1 := (rU_row hS1.1 (by decide)).trans (hrow 1 (by decide) (by decide))
              rw [hr1b] at hv_93
              have hP : strg (mat (ma 1) (endM mi ma p) h) = z_72 := by rw [hv_72, hk]
              have hfs : fnd (fun x => ma 11 p ≤ strg (mat (ma 1) (endM mi ma p) x)) h (1000 - h).toNat = strikeS (ma 1) (ma 11 p) (endM mi ma p) := by rcases hs with hs | hs; exact hs.2; exact absurd hs.1 (by omega)
              rw [fnd_s _ (by omega), if_neg (by rw [hP]; omega)] at hfs
              exact ih (h + 1) x_97 ma_7 _ _ _ (by omega) hS1.1 (by omega) (by omega) (by rw [mat_s _ _ (by omega) (by omega)]; omega) (by rw [hS1.2]; exact Or.inl ⟨rfl, hfs⟩) hw hS (lv_sub hl [0, 1, 2, 3] rfl)
            · refine lv_iload_n hx hb dX2_works_84 rfl (lv_at hl 0 rfl) ?_
              refine lv_goto (tgt := 89) hx hb dX2_works_85 (by decide) ?_
              refine ziast hx hb hE hS hw 16 (mE_a 16 (by decide) rfl) p rfl (by omega) (by omega) dX2_works_89 (fun H locs hw hS => ?_)
              have hw := hw.cong (mU_a 16 (by decide) rfl (p) (h))
              obtain ⟨ma_8, hma_8⟩ : ∃ z : Nat → Nat → Int, z = (va_up mb 16 (va_up (mb 16) (p) (h))) := ⟨_, rfl⟩
              rw [← hma_8] at hw
              have ht3 : tOK (ma_8 1) := by rw [rU_row (rU_s hU hma_8).1 (show (1:Nat) ≠ 16 by decide), hrow 1 (by decide) (by decide)]; exact ht
              refine lv_iload_n hx hb dX2_works_90 rfl (lv_at hl 1 rfl) ?_
              refine lv_aload_n hx hb dX2_works_91 rfl (lv_at hl 2 rfl) ?_
              refine lv_iload_n hx hb dX2_works_92 rfl (lv_at hl 0 rfl) ?_
              refine zcalli (va_runV (As := [.int (iI (h))]) (rest := [.int (iI (w))]) ⟨hx, hb, hml, hown, hts⟩ (c_X2_gain l D cy A ad mi ma_8 _ (h) hw (by first | decide | (constructor <;> omega)) ht3) (cwV 1 hts gX2_works_X2_gain rfl rfl rfl (by decide +kernel) ⟨(Nat.le_of_ble_eq_true rfl), (Nat.le_of_ble_eq_true rfl)⟩) (zPV hE hS hw (ci := 2) (k0 := 0) rfl mE_0) rfl rfl hl.1 rfl (lv_room (Nat.le_of_ble_eq_true rfl)) dX2_works_93 ⟨(Nat.le_of_ble_eq_true rfl), (Nat.le_of_ble_eq_true rfl)⟩) hS (fun z_93 H1 locs hz_93 hq hz1 hk1 hS => ?_)
              obtain ⟨hqe, hv_93⟩ := hq
              replace hqe := hqe.symm
              subst hqe
              refine zi_add hx hb dX2_works_96 ?_
              refine zi_top (fun x_97 hx_97 => ?_)
              refine lv_istore_n (lv' := [(2, .int (iI (x_97))), (3, .int (iI (h))), (0, .ref (ad 0)), (1, .int (iI ((p : Int))))]) hx hb dX2_works_97 rfl hl (by decide) rfl (fun ls hl => ?_)
              refine zi_iinc (lv' := [(3, .int (iI (h + 1))), (2, .int (iI (x_97))), (0, .ref (ad 0)), (1, .int (iI ((p : Int))))]) hx hb dX2_works_98 hl (k := 1) rfl (by decide) rfl (fun ls hl => ?_)
              refine lv_goto (tgt := 49) hx hb dX2_works_101 (by decide) ?_
              have hS1 := rU_s hU hma_8
              have hgA := gAt_b ht h
              have hr1b : ma_8 1 = ma 1 := (rU_row hS1.1 (by decide)).trans (hrow 1 (by decide) (by decide))
              rw [hr1b] at hv_93
              have hP : strg (mat (ma 1) (endM mi ma p) h) = z_72 := by rw [hv_72, hk]
              have hfs : fnd (fun x => ma 11 p ≤ strg (mat (ma 1) (endM mi ma p) x)) h (1000 - h).toNat = strikeS (ma 1) (ma 11 p) (endM mi ma p) := by rcases hs with hs | hs; exact hs.2; exact absurd hs.1 (by omega)
              rw [fnd_s _ (by omega), if_pos (by rw [hP]; omega)] at hfs
              exact ih (h + 1) x_97 ma_8 _ _ _ (by omega) hS1.1 (by omega) (by omega) (by rw [mat_s _ _ (by omega) (by omega)]; omega) (by rw [hS1.2]; exact Or.inr ⟨by omega, by omega, hfs⟩) hw hS (lv_sub hl [0, 1, 2, 3] rfl)
    exact loop_49 ((1000 - endM mi ma p).toNat + 1) z_45 0 ma_2 _ _ _ (by omega) rU_r (by omega) (by omega) (by rw [hE45, mat_0]) (Or.inl ⟨hB1.2, by rw [hE45]; rfl⟩) hw hS (lv_sub hl [0, 1, 2, 3] rfl)
  · refine zi_const hx hb dX2_works_18 ?_
    refine lv_goto (tgt := 33) hx hb dX2_works_19 (by decide) ?_
    refine ziast hx hb hE hS hw 15 (mE_a 15 (by decide) rfl) p rfl (by omega) (by omega) dX2_works_33 (fun H locs hw hS => ?_)
    have hw := hw.cong (mU_a 15 (by decide) rfl (p) (0))
    obtain ⟨ma_9, hma_9⟩ : ∃ z : Nat → Nat → Int, z = (va_up ma 15 (va_up (ma 15) (p) (0))) := ⟨_, rfl⟩
    rw [← hma_9] at hw
    refine lv_aload_n hx hb dX2_works_34 rfl (lv_at hl 0 rfl) ?_
    refine zget (C := RX2) (T := TX2) (N := 19) hx hb hts hinX2 hown hE hw 0 mE_0 rfl 16 (by decide) (hts (.fieldLink RX2 57 "FormworkYardModel" "strikes" "[I") (by decide +kernel)) rfl dX2_works_35 ?_
    refine lv_iload_n hx hb dX2_works_38 rfl (lv_at hl 1 rfl) ?_
    refine zi_const hx hb dX2_works_39 ?_
    refine ziast hx hb hE hS hw 16 (mE_a 16 (by decide) rfl) p rfl (by omega) (by omega) dX2_works_40 (fun H locs hw hS => ?_)
    have hw := hw.cong (mU_a 16 (by decide) rfl (p) ((-1)))
    obtain ⟨ma_10, hma_10⟩ : ∃ z : Nat → Nat → Int, z = (va_up ma_9 16 (va_up (ma_9 16) (p) ((-1)))) := ⟨_, rfl⟩
    rw [← hma_10] at hw
    refine zi_const hx hb dX2_works_41 ?_
    refine lv_istore_n (lv' := [(2, .int (iI (0))), (0, .ref (ad 0)), (1, .int (iI ((p : Int))))]) hx hb dX2_works_42 rfl hl (by decide) rfl (fun ls hl => ?_)
    have hA1 := rU_s (k := 15) (p := p) rU_r hma_9
    have hB1 := rU_s (k := 16) (p := p) rU_r hma_10
    have hrow : ∀ r, r ≠ 15 → r ≠ 16 → ma_10 r = ma r := fun r h1 h2 => (rU_row hB1.1 h2).trans (rU_row hA1.1 h1)
    have hpo2 : pOK ma_10 p := (pOK_c (hrow 8 (by decide) (by decide)) (hrow 9 (by decide) (by decide)) (hrow 10 (by decide) (by decide)) (hrow 11 (by decide) (by decide)) (hrow 12 (by decide) (by decide)) (hrow 13 (by decide) (by decide)) (hrow 14 (by decide) (by decide))).mpr hpo
    refine lv_aload_n hx hb dX2_works_43 rfl (lv_at hl 1 rfl) ?_
    refine lv_iload_n hx hb dX2_works_44 rfl (lv_at hl 2 rfl) ?_
    refine zcalli (va_runV (As := [.int (iI ((p : Int)))]) (rest := []) ⟨hx, hb, hml, hown, hts⟩ (c_X2_end l D cy A ad mi ma_10 _ p hw (by omega) hg hpo2) (cwV 1 hts gX2_works_X2_end rfl rfl rfl (by decide +kernel) ⟨(Nat.le_of_ble_eq_true rfl), (Nat.le_of_ble_eq_true rfl)⟩) (zPV hE hS hw (ci := 2) (k0 := 0) rfl mE_0) rfl rfl hl.1 rfl (lv_room (Nat.le_of_ble_eq_true rfl)) dX2_works_45 ⟨(Nat.le_of_ble_eq_true rfl), (Nat.le_of_ble_eq_true rfl)⟩) hS (fun z_45 H1 locs hz_45 hq hz1 hk1 hS => ?_)
    obtain ⟨hqe, hv_45⟩ := hq
    replace hqe := hqe.symm
    subst hqe
    have hE45 : z_45 = endM mi ma p := hv_45.trans (endM_c (hrow 8 (by decide) (by decide)) (hrow 9 (by decide) (by decide)) (hrow 12 (by decide) (by decide)) (hrow 14 (by decide) (by decide)))
    refine lv_istore_n (lv' := [(3, .int (iI (z_45))), (2, .int (iI (0))), (0, .ref (ad 0)), (1, .int (iI ((p : Int))))]) hx hb dX2_works_48 rfl hl (by decide) rfl (fun ls hl => ?_)
    have loop_49 : ∀ (n : Nat) (h w : Int) (mb : Nat → Nat → Int) (H : Heap) (locs : List Loc) (ls : Array Slot), (1000 - h).toNat < n → (rU 16 p ma_10 mb) → (endM mi ma p ≤ h) → (h ≤ max (endM mi ma p) 1000) → (w = mat (ma 1) (endM mi ma p) h) → ((mb 16 p = -1 ∧ fnd (fun x => ma 11 p ≤ strg (mat (ma 1) (endM mi ma p) x)) h (1000 - h).toNat = strikeS (ma 1) (ma 11 p) (endM mi ma p)) ∨ (0 ≤ mb 16 p ∧ mb 16 p < 1000 ∧ mb 16 p = strikeS (ma 1) (ma 11 p) (endM mi ma p))) → zW D A ad (mE cy ad mi mb) H → va_S A s.heap H locs → lv_has ls 4 [(3, .int (iI (h))), (2, .int (iI (w))), (0, .ref (ad 0)), (1, .int (iI ((p : Int))))] → W pg l en (headSpec wsX2_works ({ frames := 3, cells := 0, slots := 0, locals := 64 })).room s mt ([.ref (ad 0), .int (iI ((p : Int)))] : List Value).toArray below meth c H locs 0 0 (MQ below (zQv (fun H1 => ∃ mb, zW D A ad (mE cy ad mi mb) H1 ∧ wU p ma mb ∧ wV mi ma p mb) A) ([.ref (ad 0), .int (iI ((p : Int)))] : List Value).toArray s 0 0 A) (F0 mt 49 ls []) := by
      intro n
      induction n with
      | zero =>
        intro h w mb H locs ls hm hU hi hj hk hs
        exfalso; omega
      | succ n ih =>
        intro h w mb H locs ls hm hU hi hj hk hs hw hS hl
        have hmb := mat_b ht (endM mi ma p) h
        have hr1 : mb 1 = ma 1 := (rU_row hU (by decide)).trans (hrow 1 (by decide) (by decide))
        have hr11 : mb 11 = ma 11 := (rU_row hU (by decide)).trans (hrow 11 (by decide) (by decide))
        have ht2 : tOK (mb 1) := by rw [hr1]; exact ht
        have hst := strg_b hmb.1
        refine lv_iload_n hx hb dX2_works_49 rfl (lv_at hl 0 rfl) ?_
        refine zi_sipush hx hb dX2_works_50 (by decide) ?_
        refine zc_ge (tgt := 104) hx hb dX2_works_53 (by decide) (by first | decide | (constructor <;> omega)) (by first | decide | (constructor <;> omega)) (fun c_53 => ?_) (fun c_53 => ?_)
        · have hfin : (mb 16 p = -1 ∧ 1000 ≤ strikeS (ma 1) (ma 11 p) (endM mi ma p)) ∨ (0 ≤ mb 16 p ∧ mb 16 p < 1000 ∧ mb 16 p = strikeS (ma 1) (ma 11 p) (endM mi ma p)) := by rcases hs with hs | hs; have h2 := hs.2; rw [fnd_e _ (by omega)] at h2; omega; omega
          have hm6 : 0 ≤ mi 6 ∧ mi 6 ≤ 24 := by omega
          refine lv_aload_n hx hb dX2_works_104 rfl (lv_at hl 2 rfl) ?_
          refine zget (C := RX2) (T := TX2) (N := 19) hx hb hts hinX2 hown hE hw 0 mE_0 rfl 17 (by decide) (hts (.fieldLink RX2 60 "FormworkYardModel" "frees" "[I") (by decide +kernel)) rfl dX2_works_105 ?_
          refine lv_iload_n hx hb dX2_works_108 rfl (lv_at hl 3 rfl) ?_
          refine lv_aload_n hx hb dX2_works_109 rfl (lv_at hl 2 rfl) ?_
          refine zget (C := RX2) (T := TX2) (N := 19) hx hb hts hinX2 hown hE hw 0 mE_0 rfl 16 (by decide) (hts (.fieldLink RX2 57 "FormworkYardModel" "strikes" "[I") (by decide +kernel)) rfl dX2_works_110 ?_
          refine lv_iload_n hx hb dX2_works_113 rfl (lv_at hl 3 rfl) ?_
          refine ziald hx hb hE hw 16 (mE_a 16 (by decide) rfl) p rfl (by omega) (by omega) dX2_works_114 ?_
          refine zi_top (fun v_114 hv_114 => ?_)
          refine zi_const hx hb dX2_works_115 ?_
          refine zc_ne (tgt := 125) hx hb dX2_works_116 (by decide) (by first | decide | (constructor <;> omega)) (by first | decide | (constructor <;> omega)) (fun c_116 => ?_) (fun c_116 => ?_)
          · refine lv_aload_n hx hb dX2_works_125 rfl (lv_at hl 2 rfl) ?_
            refine zget (C := RX2) (T := TX2) (N := 19) hx hb hts hinX2 hown hE hw 0 mE_0 rfl 16 (by decide) (hts (.fieldLink RX2 57 "FormworkYardModel" "strikes" "[I") (by decide +kernel)) rfl dX2_works_126 ?_
            refine lv_iload_n hx hb dX2_works_129 rfl (lv_at hl 3 rfl) ?_
            refine ziald hx hb hE hw 16 (mE_a 16 (by decide) rfl) p rfl (by omega) (by omega) dX2_works_130 ?_
            refine zi_top (fun v_130 hv_130 => ?_)
            refine lv_aload_n hx hb dX2_works_131 rfl (lv_at hl 2 rfl) ?_
            refine zget (C := RX2) (T := TX2) (N := 19) hx hb hts hinX2 hown hE hw 0 mE_0 rfl 6 (by decide) (hts (.fieldLink RX2 26 "FormworkYardModel" "cleaning" "I") (by decide +kernel)) rfl dX2_works_132 ?_
            refine zi_add hx hb dX2_works_135 ?_
            refine ziast hx hb hE hS hw 17 (mE_a 17 (by decide) rfl) p rfl (by omega) (by omega) dX2_works_136 (fun H locs hw hS => ?_)
            have hw := hw.cong (mU_a 17 (by decide) rfl (p) (v_130 + (mi 6)))
            obtain ⟨ma_11, hma_11⟩ : ∃ z : Nat → Nat → Int, z = (va_up mb 17 (va_up (mb 17) (p) (v_130 + (mi 6)))) := ⟨_, rfl⟩
            rw [← hma_11] at hw
            refine zvret hx hb hr hlocks hS (Nat.le_of_ble_eq_true rfl) (Nat.le_of_ble_eq_true rfl) ?_ dX2_works_137
            have hC1 := rU_s (k := 17) (p := p) rU_r hma_11
            refine ⟨_, hw, fun r j hj => ?_, ?_, ?_, ?_⟩
            · rw [hC1.1 r j (by omega), hU r j (by omega), hB1.1 r j (by omega), hA1.1 r j (by omega)]
            · rw [hC1.1 15 p (by omega), hU 15 p (by omega), hB1.1 15 p (by omega), hA1.2]; unfold standS; split <;> omega
            · rw [hC1.1 16 p (by omega)]; split <;> omega
            · rw [hC1.2]; unfold freeS; split <;> omega
          · refine zi_sipush hx hb dX2_works_119 (by decide) ?_
            refine lv_goto (tgt := 136) hx hb dX2_works_122 (by decide) ?_
            refine ziast hx hb hE hS hw 17 (mE_a 17 (by decide) rfl) p rfl (by omega) (by omega) dX2_works_136 (fun H locs hw hS => ?_)
            have hw := hw.cong (mU_a 17 (by decide) rfl (p) (1000))
            obtain ⟨ma_12, hma_12⟩ : ∃ z : Nat → Nat → Int, z = (va_up mb 17 (va_up (mb 17) (p) (1000))) := ⟨_, rfl⟩
            rw [← hma_12] at hw
            refine zvret hx hb hr hlocks hS (Nat.le_of_ble_eq_true rfl) (Nat.le_of_ble_eq_true rfl) ?_ dX2_works_137
            have hC1 := rU_s (k := 17) (p := p) rU_r hma_12
            refine ⟨_, hw, fun r j hj => ?_, ?_, ?_, ?_⟩
            · rw [hC1.1 r j (by omega), hU r j (by omega), hB1.1 r j (by omega), hA1.1 r j (by omega)]
            · rw [hC1.1 15 p (by omega), hU 15 p (by omega), hB1.1 15 p (by omega), hA1.2]; unfold standS; split <;> omega
            · rw [hC1.1 16 p (by omega)]; split <;> omega
            · rw [hC1.2]; unfold freeS; split <;> omega
        · refine lv_aload_n hx hb dX2_works_56 rfl (lv_at hl 2 rfl) ?_
          refine zget (C := RX2) (T := TX2) (N := 19) hx hb hts hinX2 hown hE hw 0 mE_0 rfl 16 (by decide) (hts (.fieldLink RX2 57 "FormworkYardModel" "strikes" "[I") (by decide +kernel)) rfl dX2_works_57 ?_
          refine lv_iload_n hx hb dX2_works_60 rfl (lv_at hl 3 rfl) ?_
          refine ziald hx hb hE hw 16 (mE_a 16 (by decide) rfl) p rfl (by omega) (by omega) dX2_works_61 ?_
          refine zi_top (fun v_61 hv_61 => ?_)
          refine zi_const hx hb dX2_works_62 ?_
          refine zc_ne (tgt := 104) hx hb dX2_works_63 (by decide) (by first | decide | (constructor <;> omega)) (by first | decide | (constructor <;> omega)) (fun c_63 => ?_) (fun c_63 => ?_)
          · have hfin : (mb 16 p = -1 ∧ 1000 ≤ strikeS (ma 1) (ma 11 p) (endM mi ma p)) ∨ (0 ≤ mb 16 p ∧ mb 16 p < 1000 ∧ mb 16 p = strikeS (ma 1) (ma 11 p) (endM mi ma p)) := by rcases hs with hs | hs; omega; omega
            have hm6 : 0 ≤ mi 6 ∧ mi 6 ≤ 24 := by omega
            refine lv_aload_n hx hb dX2_works_104 rfl (lv_at hl 2 rfl) ?_
            refine zget (C := RX2) (T := TX2) (N := 19) hx hb hts hinX2 hown hE hw 0 mE_0 rfl 17 (by decide) (hts (.fieldLink RX2 60 "FormworkYardModel" "frees" "[I") (by decide +kernel)) rfl dX2_works_105 ?_
            refine lv_iload_n hx hb dX2_works_108 rfl (lv_at hl 3 rfl) ?_
            refine lv_aload_n hx hb dX2_works_109 rfl (lv_at hl 2 rfl) ?_
            refine zget (C := RX2) (T := TX2) (N := 19) hx hb hts hinX2 hown hE hw 0 mE_0 rfl 16 (by decide) (hts (.fieldLink RX2 57 "FormworkYardModel" "strikes" "[I") (by decide +kernel)) rfl dX2_works_110 ?_
            refine lv_iload_n hx hb dX2_works_113 rfl (lv_at hl 3 rfl) ?_
            refine ziald hx hb hE hw 16 (mE_a 16 (by decide) rfl) p rfl (by omega) (by omega) dX2_works_114 ?_
            refine zi_top (fun v_114 hv_114 => ?_)
            refine zi_const hx hb dX2_works_115 ?_
            refine zc_ne (tgt := 125) hx hb dX2_works_116 (by decide) (by first | decide | (constructor <;> omega)) (by first | decide | (constructor <;> omega)) (fun c_116 => ?_) (fun c_116 => ?_)
            · refine lv_aload_n hx hb dX2_works_125 rfl (lv_at hl 2 rfl) ?_
              refine zget (C := RX2) (T := TX2) (N := 19) hx hb hts hinX2 hown hE hw 0 mE_0 rfl 16 (by decide) (hts (.fieldLink RX2 57 "FormworkYardModel" "strikes" "[I") (by decide +kernel)) rfl dX2_works_126 ?_
              refine lv_iload_n hx hb dX2_works_129 rfl (lv_at hl 3 rfl) ?_
              refine ziald hx hb hE hw 16 (mE_a 16 (by decide) rfl) p rfl (by omega) (by omega) dX2_works_130 ?_
              refine zi_top (fun v_130 hv_130 => ?_)
              refine lv_aload_n hx hb dX2_works_131 rfl (lv_at hl 2 rfl) ?_
              refine zget (C := RX2) (T := TX2) (N := 19) hx hb hts hinX2 hown hE hw 0 mE_0 rfl 6 (by decide) (hts (.fieldLink RX2 26 "FormworkYardModel" "cleaning" "I") (by decide +kernel)) rfl dX2_works_132 ?_
              refine zi_add hx hb dX2_works_135 ?_
              refine ziast hx hb hE hS hw 17 (mE_a 17 (by decide) rfl) p rfl (by omega) (by omega) dX2_works_136 (fun H locs hw hS => ?_)
              have hw := hw.cong (mU_a 17 (by decide) rfl (p) (v_130 + (mi 6)))
              obtain ⟨ma_13, hma_13⟩ : ∃ z : Nat → Nat → Int, z = (va_up mb 17 (va_up (mb 17) (p) (v_130 + (mi 6)))) := ⟨_, rfl⟩
              rw [← hma_13] at hw
              refine zvret hx hb hr hlocks hS (Nat.le_of_ble_eq_true rfl) (Nat.le_of_ble_eq_true rfl) ?_ dX2_works_137
              have hC1 := rU_s (k := 17) (p := p) rU_r hma_13
              refine ⟨_, hw, fun r j hj => ?_, ?_, ?_, ?_⟩
              · rw [hC1.1 r j (by omega), hU r j (by omega), hB1.1 r j (by omega), hA1.1 r j (by omega)]
              · rw [hC1.1 15 p (by omega), hU 15 p (by omega), hB1.1 15 p (by omega), hA1.2]; unfold standS; split <;> omega
              · rw [hC1.1 16 p (by omega)]; split <;> omega
              · rw [hC1.2]; unfold freeS; split <;> omega
            · refine zi_sipush hx hb dX2_works_119 (by decide) ?_
              refine lv_goto (tgt := 136) hx hb dX2_works_122 (by decide) ?_
              refine ziast hx hb hE hS hw 17 (mE_a 17 (by decide) rfl) p rfl (by omega) (by omega) dX2_works_136 (fun H locs hw hS => ?_)
              have hw := hw.cong (mU_a 17 (by decide) rfl (p) (1000))
              obtain ⟨ma_14, hma_14⟩ : ∃ z : Nat → Nat → Int, z = (va_up mb 17 (va_up (mb 17) (p) (1000))) := ⟨_, rfl⟩
              rw [← hma_14] at hw
              refine zvret hx hb hr hlocks hS (Nat.le_of_ble_eq_true rfl) (Nat.le_of_ble_eq_true rfl) ?_ dX2_works_137
              have hC1 := rU_s (k := 17) (p := p) rU_r hma_14
              refine ⟨_, hw, fun r j hj => ?_, ?_, ?_, ?_⟩
              · rw [hC1.1 r j (by omega), hU r j (by omega), hB1.1 r j (by omega), hA1.1 r j (by omega)]
              · rw [hC1.1 15 p (by omega), hU 15 p (by omega), hB1.1 15 p (by omega), hA1.2]; unfold standS; split <;> omega
              · rw [hC1.1 16 p (by omega)]; split <;> omega
              · rw [hC1.2]; unfold freeS; split <;> omega
          · refine lv_aload_n hx hb dX2_works_66 rfl (lv_at hl 2 rfl) ?_
            refine zget (C := RX2) (T := TX2) (N := 19) hx hb hts hinX2 hown hE hw 0 mE_0 rfl 16 (by decide) (hts (.fieldLink RX2 57 "FormworkYardModel" "strikes" "[I") (by decide +kernel)) rfl dX2_works_67 ?_
            refine lv_iload_n hx hb dX2_works_70 rfl (lv_at hl 3 rfl) ?_
            refine lv_iload_n hx hb dX2_works_71 rfl (lv_at hl 1 rfl) ?_
            refine zcalli (va_runS (As := [.int (iI (w))]) (rest := [.int (iI ((p : Int))), .ref (ad 16)]) ⟨hx, hb, hml, hown, hts⟩ (c_X2_strong l D cy A ad _ (w) (by omega)) (va_cwS 1 hts gX2_works_X2_strong rfl rfl rfl (by decide +kernel) ⟨(Nat.le_of_ble_eq_true rfl), (Nat.le_of_ble_eq_true rfl)⟩) (zPS hE hS) rfl rfl hl.1 rfl (lv_room (Nat.le_of_ble_eq_true rfl)) dX2_works_72 ⟨(Nat.le_of_ble_eq_true rfl), (Nat.le_of_ble_eq_true rfl)⟩) hS (fun z_72 H1 locs hz_72 hq hz1 hk1 hS => ?_)
            obtain ⟨hqe, hv_72⟩ := hq
            replace hqe := hqe.symm
            subst hqe
            refine lv_aload_n hx hb dX2_works_75 rfl (lv_at hl 2 rfl) ?_
            refine zget (C := RX2) (T := TX2) (N := 19) hx hb hts hinX2 hown hE hw 0 mE_0 rfl 11 (by decide) (hts (.fieldLink RX2 42 "FormworkYardModel" "wanted" "[I") (by decide +kernel)) rfl dX2_works_76 ?_
            refine lv_iload_n hx hb dX2_works_79 rfl (lv_at hl 3 rfl) ?_
            refine ziald hx hb hE hw 11 (mE_a 11 (by decide) rfl) p rfl (by omega) (by omega) dX2_works_80 ?_
            refine zi_top (fun v_80 hv_80 => ?_)
            rw [hr11] at hv_80
            refine zc_lt (tgt := 88) hx hb dX2_works_81 (by decide) (by first | decide | (constructor <;> omega)) (by first | decide | (constructor <;> omega)) (fun c_81 => ?_) (fun c_81 => ?_)
            · refine zi_const hx hb dX2_works_88 ?_
              refine ziast hx hb hE hS hw 16 (mE_a 16 (by decide) rfl) p rfl (by omega) (by omega) dX2_works_89 (fun H locs hw hS => ?_)
              have hw := hw.cong (mU_a 16 (by decide) rfl (p) ((-1)))
              obtain ⟨ma_15, hma_15⟩ : ∃ z : Nat → Nat → Int, z = (va_up mb 16 (va_up (mb 16) (p) ((-1)))) := ⟨_, rfl⟩
              rw [← hma_15] at hw
              have ht3 : tOK (ma_15 1) := by rw [rU_row (rU_s hU hma_15).1 (show (1:Nat) ≠ 16 by decide), hrow 1 (by decide) (by decide)]; exact ht
              refine lv_iload_n hx hb dX2_works_90 rfl (lv_at hl 1 rfl) ?_
              refine lv_aload_n hx hb dX2_works_91 rfl (lv_at hl 2 rfl) ?_
              refine lv_iload_n hx hb dX2_works_92 rfl (lv_at hl 0 rfl) ?_
              refine zcalli (va_runV (As := [.int (iI (h))]) (rest := [.int (iI (w))]) ⟨hx, hb, hml, hown, hts⟩ (c_X2_gain l D cy A ad mi ma_15 _ (h) hw (by first | decide | (constructor <;> omega)) ht3) (cwV 1 hts gX2_works_X2_gain rfl rfl rfl (by decide +kernel) ⟨(Nat.le_of_ble_eq_true rfl), (Nat.le_of_ble_eq_true rfl)⟩) (zPV hE hS hw (ci := 2) (k0 := 0) rfl mE_0) rfl rfl hl.1 rfl (lv_room (Nat.le_of_ble_eq_true rfl)) dX2_works_93 ⟨(Nat.le_of_ble_eq_true rfl), (Nat.le_of_ble_eq_true rfl)⟩) hS (fun z_93 H1 locs hz_93 hq hz1 hk1 hS => ?_)
              obtain ⟨hqe, hv_93⟩ := hq
              replace hqe := hqe.symm
              subst hqe
              refine zi_add hx hb dX2_works_96 ?_
              refine zi_top (fun x_97 hx_97 => ?_)
              refine lv_istore_n (lv' := [(2, .int (iI (x_97))), (3, .int (iI (h))), (0, .ref (ad 0)), (1, .int (iI ((p : Int))))]) hx hb dX2_works_97 rfl hl (by decide) rfl (fun ls hl => ?_)
              refine zi_iinc (lv' := [(3, .int (iI (h + 1))), (2, .int (iI (x_97))), (0, .ref (ad 0)), (1, .int (iI ((p : Int))))]) hx hb dX2_works_98 hl (k := 1) rfl (by decide) rfl (fun ls hl => ?_)
              refine lv_goto (tgt := 49) hx hb dX2_works_101 (by decide) ?_
              have hS1 := rU_s hU hma_15
              have hgA := gAt_b ht h
              have hr1b : ma_15 1 = ma 1 := (rU_row hS1.1 (by decide)).trans (hrow 1 (by decide) (by decide))
              rw [hr1b] at hv_93
              have hP : strg (mat (ma 1) (endM mi ma p) h) = z_72 := by rw [hv_72, hk]
              have hfs : fnd (fun x => ma 11 p ≤ strg (mat (ma 1) (endM mi ma p) x)) h (1000 - h).toNat = strikeS (ma 1) (ma 11 p) (endM mi ma p) := by rcases hs with hs | hs; exact hs.2; exact absurd hs.1 (by omega)
              rw [fnd_s _ (by omega), if_neg (by rw [hP]; omega)] at hfs
              exact ih (h + 1) x_97 ma_15 _ _ _ (by omega) hS1.1 (by omega) (by omega) (by rw [mat_s _ _ (by omega) (by omega)]; omega) (by rw [hS1.2]; exact Or.inl ⟨rfl, hfs⟩) hw hS (lv_sub hl [0, 1, 2, 3] rfl)
            · refine lv_iload_n hx hb dX2_works_84 rfl (lv_at hl 0 rfl) ?_
              refine lv_goto (tgt := 89) hx hb dX2_works_85 (by decide) ?_
              refine ziast hx hb hE hS hw 16 (mE_a 16 (by decide) rfl) p rfl (by omega) (by omega) dX2_works_89 (fun H locs hw hS => ?_)
              have hw := hw.cong (mU_a 16 (by decide) rfl (p) (h))
              obtain ⟨ma_16, hma_16⟩ : ∃ z : Nat → Nat → Int, z = (va_up mb 16 (va_up (mb 16) (p) (h))) := ⟨_, rfl⟩
              rw [← hma_16] at hw
              have ht3 : tOK (ma_16 1) := by rw [rU_row (rU_s hU hma_16).1 (show (1:Nat) ≠ 16 by decide), hrow 1 (by decide) (by decide)]; exact ht
              refine lv_iload_n hx hb dX2_works_90 rfl (lv_at hl 1 rfl) ?_
              refine lv_aload_n hx hb dX2_works_91 rfl (lv_at hl 2 rfl) ?_
              refine lv_iload_n hx hb dX2_works_92 rfl (lv_at hl 0 rfl) ?_
              refine zcalli (va_runV (As := [.int (iI (h))]) (rest := [.int (iI (w))]) ⟨hx, hb, hml, hown, hts⟩ (c_X2_gain l D cy A ad mi ma_16 _ (h) hw (by first | decide | (constructor <;> omega)) ht3) (cwV 1 hts gX2_works_X2_gain rfl rfl rfl (by decide +kernel) ⟨(Nat.le_of_ble_eq_true rfl), (Nat.le_of_ble_eq_true rfl)⟩) (zPV hE hS hw (ci := 2) (k0 := 0) rfl mE_0) rfl rfl hl.1 rfl (lv_room (Nat.le_of_ble_eq_true rfl)) dX2_works_93 ⟨(Nat.le_of_ble_eq_true rfl), (Nat.le_of_ble_eq_true rfl)⟩) hS (fun z_93 H1 locs hz_93 hq hz1 hk1 hS => ?_)
              obtain ⟨hqe, hv_93⟩ := hq
              replace hqe := hqe.symm
              subst hqe
              refine zi_add hx hb dX2_works_96 ?_
              refine zi_top (fun x_97 hx_97 => ?_)
              refine lv_istore_n (lv' := [(2, .int (iI (x_97))), (3, .int (iI (h))), (0, .ref (ad 0)), (1, .int (iI ((p : Int))))]) hx hb dX2_works_97 rfl hl (by decide) rfl (fun ls hl => ?_)
              refine zi_iinc (lv' := [(3, .int (iI (h + 1))), (2, .int (iI (x_97))), (0, .ref (ad 0)), (1, .int (iI ((p : Int))))]) hx hb dX2_works_98 hl (k := 1) rfl (by decide) rfl (fun ls hl => ?_)
              refine lv_goto (tgt := 49) hx hb dX2_works_101 (by decide) ?_
              have hS1 := rU_s hU hma_16
              have hgA := gAt_b ht h
              have hr1b : ma_16 1 = ma 1 := (rU_row hS1.1 (by decide)).trans (hrow 1 (by decide) (by decide))
              rw [hr1b] at hv_93
              have hP : strg (mat (ma 1) (endM mi ma p) h) = z_72 := by rw [hv_72, hk]
              have hfs : fnd (fun x => ma 11 p ≤ strg (mat (ma 1) (endM mi ma p) x)) h (1000 - h).toNat = strikeS (ma 1) (ma 11 p) (endM mi ma p) := by rcases hs with hs | hs; exact hs.2; exact absurd hs.1 (by omega)
              rw [fnd_s _ (by omega), if_pos (by rw [hP]; omega)] at hfs
              exact ih (h + 1) x_97 ma_16 _ _ _ (by omega) hS1.1 (by omega) (by omega) (by rw [mat_s _ _ (by omega) (by omega)]; omega) (by rw [hS1.2]; exact Or.inr ⟨by omega, by omega, hfs⟩) hw hS (lv_sub hl [0, 1, 2, 3] rfl)
    exact loop_49 ((1000 - endM mi ma p).toNat + 1) z_45 0 ma_10 _ _ _ (by omega) rU_r (by omega) (by omega) (by rw [hE45, mat_0]) (Or.inl ⟨hB1.2, by rw [hE45]; rfl⟩) hw hS (lv_sub hl [0, 1, 2, 3] rfl)
