set_option maxHeartbeats 4000000 in
set_option maxRecDepth 100000 in
theorem c_X1_requireHour_ok (l : Launch) (D : va_G) (cy : Nat → ClassId) (A : Nat → Prop) (ad : Nat → Nat) (H0 : Heap) (h : Int) (h1 : 0 ≤ h ∧ h < 1000) : Met l yX1_requireHour wsX1_requireHour ({ frames := 1, cells := 0, slots := 0, locals := 20 }) (zPc D cy A [.int (iI (h))] H0) (zQv (fun H1 => H1 = H0) A) 0 0 A := by
  refine Met.ofW (cc := cX1_requireHour) (maxL := 1) (ret := none) (by decide) rfl ?_
  intro pg en s mt args below meth c s₁ B hml hv
  obtain ⟨rfl, hH, hE⟩ := hv
  subst hH
  have hx := B.exec
  have hb := B.bytes
  have hr := B.returns
  have hts := atoms_spec (ws := wsX1_requireHour) B.pre
  have hown : s.vm.findClass RX1 = some mt.cls := findClass_of_methodNamed B.named
  have hlocks := B.notSynchronized
  have hS : va_S A s.heap s.heap [] := va_S.rf
  have hl := lv_entry ([.int (iI (h))]) (n := 1) (Nat.le_of_ble_eq_true rfl)
  rw [lg_entry_eq]
  generalize (lg_sl ([.int (iI (h))]) ++ List.replicate (1 - (lg_sl ([.int (iI (h))])).length) Slot.unset).toArray = ls at hl ⊢
  have hl : lv_has ls 1 [(0, .int (iI (h)))] := hl
  refine lv_iload_n hx hb dX1_requireHour_0 rfl (lv_at hl 0 rfl) ?_
  refine zcalli (va_runS (As := [.int (iI (h))]) (rest := []) ⟨hx, hb, hml, hown, hts⟩ (c_X1_isHour l D cy A ad _ (h) (by first | decide | (constructor <;> omega))) (va_cwS 1 hts gX1_requireHour_X1_isHour rfl rfl rfl (by decide +kernel) ⟨(Nat.le_of_ble_eq_true rfl), (Nat.le_of_ble_eq_true rfl)⟩) (zPS hE hS) rfl rfl hl.1 rfl (lv_room (Nat.le_of_ble_eq_true rfl)) dX1_requireHour_1 ⟨(Nat.le_of_ble_eq_true rfl), (Nat.le_of_ble_eq_true rfl)⟩) hS (fun z_1 H1 locs hz_1 hq hz1 hk1 hS => ?_)
  obtain ⟨hqe, hv_1⟩ := hq
  replace hqe := hqe.symm
  subst hqe
  refine zf_ne (tgt := 15) hx hb dX1_requireHour_4 (by decide) (by first | decide | (constructor <;> omega)) (fun c_4 => ?_) (fun c_4 => ?_)
  · refine zvret hx hb hr hlocks hS (Nat.le_of_ble_eq_true rfl) (Nat.le_of_ble_eq_true rfl) ?_ dX1_requireHour_15
    rfl
  · exfalso; omega

set_option maxHeartbeats 4000000 in
set_option maxRecDepth 100000 in
theorem c_X1_require_ok (l : Launch) (D : va_G) (cy : Nat → ClassId) (A : Nat → Prop) (ad : Nat → Nat) (H0 : Heap) (h : Int) (h1 : h = 1) : Met l yX1_require wsX1_require ({ frames := 0, cells := 0, slots := 0, locals := 0 }) (zPc D cy A [.int (iI (h))] H0) (zQv (fun H1 => H1 = H0) A) 0 0 A := by
  refine Met.ofW (cc := cX1_require) (maxL := 1) (ret := none) (by decide) rfl ?_
  intro pg en s mt args below meth c s₁ B hml hv
  obtain ⟨rfl, hH, hE⟩ := hv
  subst hH
  have hx := B.exec
  have hb := B.bytes
  have hr := B.returns
  have hts := atoms_spec (ws := wsX1_require) B.pre
  have hown : s.vm.findClass RX1 = some mt.cls := findClass_of_methodNamed B.named
  have hlocks := B.notSynchronized
  have hS : va_S A s.heap s.heap [] := va_S.rf
  have hl := lv_entry ([.int (iI (h))]) (n := 1) (Nat.le_of_ble_eq_true rfl)
  rw [lg_entry_eq]
  generalize (lg_sl ([.int (iI (h))]) ++ List.replicate (1 - (lg_sl ([.int (iI (h))])).length) Slot.unset).toArray = ls at hl ⊢
  have hl : lv_has ls 1 [(0, .int (iI (h)))] := hl
  refine lv_iload_n hx hb dX1_require_0 rfl (lv_at hl 0 rfl) ?_
  refine zf_ne (tgt := 12) hx hb dX1_require_1 (by decide) (by first | decide | (constructor <;> omega)) (fun c_1 => ?_) (fun c_1 => ?_)
  · refine zvret hx hb hr hlocks hS (Nat.le_of_ble_eq_true rfl) (Nat.le_of_ble_eq_true rfl) ?_ dX1_require_12
    rfl
  · exfalso; omega

set_option maxHeartbeats 4000000 in
set_option maxRecDepth 100000 in
theorem c_X1_requireRange_ok (l : Launch) (D : va_G) (cy : Nat → ClassId) (A : Nat → Prop) (ad : Nat → Nat) (H0 : Heap) (v a b : Int) (h1 : a ≤ v ∧ v ≤ b) (h2 : zr a) (h3 : zr b) : Met l yX1_requireRange wsX1_requireRange ({ frames := 1, cells := 0, slots := 0, locals := 20 }) (zPc D cy A [.int (iI (v)), .int (iI (a)), .int (iI (b))] H0) (zQv (fun H1 => H1 = H0) A) 0 0 A := by
  refine Met.ofW (cc := cX1_requireRange) (maxL := 3) (ret := none) (by decide) rfl ?_
  intro pg en s mt args below meth c s₁ B hml hv
  obtain ⟨rfl, hH, hE⟩ := hv
  subst hH
  have hx := B.exec
  have hb := B.bytes
  have hr := B.returns
  have hts := atoms_spec (ws := wsX1_requireRange) B.pre
  have hown : s.vm.findClass RX1 = some mt.cls := findClass_of_methodNamed B.named
  have hlocks := B.notSynchronized
  have hS : va_S A s.heap s.heap [] := va_S.rf
  have hl := lv_entry ([.int (iI (v)), .int (iI (a)), .int (iI (b))]) (n := 3) (Nat.le_of_ble_eq_true rfl)
  rw [lg_entry_eq]
  generalize (lg_sl ([.int (iI (v)), .int (iI (a)), .int (iI (b))]) ++ List.replicate (3 - (lg_sl ([.int (iI (v)), .int (iI (a)), .int (iI (b))])).length) Slot.unset).toArray = ls at hl ⊢
  have hl : lv_has ls 3 [(0, .int (iI (v))), (1, .int (iI (a))), (2, .int (iI (b)))] := hl
  refine lv_iload_n hx hb dX1_requireRange_0 rfl (lv_at hl 0 rfl) ?_
  refine lv_iload_n hx hb dX1_requireRange_1 rfl (lv_at hl 1 rfl) ?_
  refine zc_lt (tgt := 14) hx hb dX1_requireRange_2 (by decide) (by first | decide | (constructor <;> omega)) (by first | decide | (constructor <;> omega)) (fun c_2 => ?_) (fun c_2 => ?_)
  · exfalso; omega
  · refine lv_iload_n hx hb dX1_requireRange_5 rfl (lv_at hl 0 rfl) ?_
    refine lv_iload_n hx hb dX1_requireRange_6 rfl (lv_at hl 2 rfl) ?_
    refine zc_gt (tgt := 14) hx hb dX1_requireRange_7 (by decide) (by first | decide | (constructor <;> omega)) (by first | decide | (constructor <;> omega)) (fun c_7 => ?_) (fun c_7 => ?_)
    · exfalso; omega
    · refine zi_const hx hb dX1_requireRange_10 ?_
      refine lv_goto (tgt := 15) hx hb dX1_requireRange_11 (by decide) ?_
      refine zcallv (va_runS (As := [.int (iI (1))]) (rest := []) ⟨hx, hb, hml, hown, hts⟩ (c_X1_require_ok l D cy A ad _ (1) (by omega)) (va_cwS 1 hts gX1_requireRange_X1_require rfl rfl rfl (by decide +kernel) ⟨(Nat.le_of_ble_eq_true rfl), (Nat.le_of_ble_eq_true rfl)⟩) (zPS hE hS) rfl rfl hl.1 rfl (lv_room (Nat.le_of_ble_eq_true rfl)) dX1_requireRange_15 ⟨(Nat.le_of_ble_eq_true rfl), (Nat.le_of_ble_eq_true rfl)⟩) hS (fun H1 locs hq hz1 hk1 hS => ?_)
      replace hq := hq.symm
      subst hq
      refine zvret hx hb hr hlocks hS (Nat.le_of_ble_eq_true rfl) (Nat.le_of_ble_eq_true rfl) ?_ dX1_requireRange_18
      rfl

set_option maxHeartbeats 4000000 in
set_option maxRecDepth 100000 in
theorem c_X1_requirePour_ok (l : Launch) (D : va_G) (cy : Nat → ClassId) (A : Nat → Prop) (ad : Nat → Nat) (H0 : Heap) (a b d f : Int) (h1 : plOK a b d f) : Met l yX1_requirePour wsX1_requirePour ({ frames := 2, cells := 0, slots := 0, locals := 42 }) (zPc D cy A [.int (iI (a)), .int (iI (b)), .int (iI (d)), .int (iI (f))] H0) (zQv (fun H1 => H1 = H0) A) 0 0 A := by
  refine Met.ofW (cc := cX1_requirePour) (maxL := 4) (ret := none) (by decide) rfl ?_
  intro pg en s mt args below meth c s₁ B hml hv
  obtain ⟨rfl, hH, hE⟩ := hv
  subst hH
  have hx := B.exec
  have hb := B.bytes
  have hr := B.returns
  have hts := atoms_spec (ws := wsX1_requirePour) B.pre
  have hown : s.vm.findClass RX1 = some mt.cls := findClass_of_methodNamed B.named
  have hlocks := B.notSynchronized
  have hS : va_S A s.heap s.heap [] := va_S.rf
  have hl := lv_entry ([.int (iI (a)), .int (iI (b)), .int (iI (d)), .int (iI (f))]) (n := 4) (Nat.le_of_ble_eq_true rfl)
  rw [lg_entry_eq]
  generalize (lg_sl ([.int (iI (a)), .int (iI (b)), .int (iI (d)), .int (iI (f))]) ++ List.replicate (4 - (lg_sl ([.int (iI (a)), .int (iI (b)), .int (iI (d)), .int (iI (f))])).length) Slot.unset).toArray = ls at hl ⊢
  have hl : lv_has ls 4 [(0, .int (iI (a))), (1, .int (iI (b))), (2, .int (iI (d))), (3, .int (iI (f)))] := hl
  unfold plOK at h1
  refine lv_iload_n hx hb dX1_requirePour_0 rfl (lv_at hl 0 rfl) ?_
  refine zi_const hx hb dX1_requirePour_1 ?_
  refine zi_sipush hx hb dX1_requirePour_2 (by decide) ?_
  refine zcallv (va_runS (As := [.int (iI (a)), .int (iI (0)), .int (iI (900))]) (rest := []) ⟨hx, hb, hml, hown, hts⟩ (c_X1_requireRange_ok l D cy A ad _ (a) (0) (900) (by omega) (by first | decide | (constructor <;> omega)) (by first | decide | (constructor <;> omega))) (va_cwS 3 hts gX1_requirePour_X1_requireRange rfl rfl rfl (by decide +kernel) ⟨(Nat.le_of_ble_eq_true rfl), (Nat.le_of_ble_eq_true rfl)⟩) (zPS hE hS) rfl rfl hl.1 rfl (lv_room (Nat.le_of_ble_eq_true rfl)) dX1_requirePour_5 ⟨(Nat.le_of_ble_eq_true rfl), (Nat.le_of_ble_eq_true rfl)⟩) hS (fun H1 locs hq hz1 hk1 hS => ?_)
  replace hq := hq.symm
  subst hq
  refine lv_iload_n hx hb dX1_requirePour_8 rfl (lv_at hl 1 rfl) ?_
  refine zi_const hx hb dX1_requirePour_9 ?_
  refine zi_sipush hx hb dX1_requirePour_10 (by decide) ?_
  refine zcallv (va_runS (As := [.int (iI (b)), .int (iI (1)), .int (iI (200))]) (rest := []) ⟨hx, hb, hml, hown, hts⟩ (c_X1_requireRange_ok l D cy A ad _ (b) (1) (200) (by omega) (by first | decide | (constructor <;> omega)) (by first | decide | (constructor <;> omega))) (va_cwS 3 hts gX1_requirePour_X1_requireRange rfl rfl rfl (by decide +kernel) ⟨(Nat.le_of_ble_eq_true rfl), (Nat.le_of_ble_eq_true rfl)⟩) (zPS hE hS) rfl rfl hl.1 rfl (lv_room (Nat.le_of_ble_eq_true rfl)) dX1_requirePour_13 ⟨(Nat.le_of_ble_eq_true rfl), (Nat.le_of_ble_eq_true rfl)⟩) hS (fun H1 locs hq hz1 hk1 hS => ?_)
  replace hq := hq.symm
  subst hq
  refine lv_iload_n hx hb dX1_requirePour_16 rfl (lv_at hl 2 rfl) ?_
  refine zi_const hx hb dX1_requirePour_17 ?_
  refine zi_bipush hx hb dX1_requirePour_18 (by decide) ?_
  refine zcallv (va_runS (As := [.int (iI (d)), .int (iI (1)), .int (iI (30))]) (rest := []) ⟨hx, hb, hml, hown, hts⟩ (c_X1_requireRange_ok l D cy A ad _ (d) (1) (30) (by omega) (by first | decide | (constructor <;> omega)) (by first | decide | (constructor <;> omega))) (va_cwS 3 hts gX1_requirePour_X1_requireRange rfl rfl rfl (by decide +kernel) ⟨(Nat.le_of_ble_eq_true rfl), (Nat.le_of_ble_eq_true rfl)⟩) (zPS hE hS) rfl rfl hl.1 rfl (lv_room (Nat.le_of_ble_eq_true rfl)) dX1_requirePour_20 ⟨(Nat.le_of_ble_eq_true rfl), (Nat.le_of_ble_eq_true rfl)⟩) hS (fun H1 locs hq hz1 hk1 hS => ?_)
  replace hq := hq.symm
  subst hq
  refine lv_iload_n hx hb dX1_requirePour_23 rfl (lv_at hl 3 rfl) ?_
  refine zi_const hx hb dX1_requirePour_24 ?_
  refine zi_bipush hx hb dX1_requirePour_25 (by decide) ?_
  refine zcallv (va_runS (As := [.int (iI (f)), .int (iI (1)), .int (iI (100))]) (rest := []) ⟨hx, hb, hml, hown, hts⟩ (c_X1_requireRange_ok l D cy A ad _ (f) (1) (100) (by omega) (by first | decide | (constructor <;> omega)) (by first | decide | (constructor <;> omega))) (va_cwS 3 hts gX1_requirePour_X1_requireRange rfl rfl rfl (by decide +kernel) ⟨(Nat.le_of_ble_eq_true rfl), (Nat.le_of_ble_eq_true rfl)⟩) (zPS hE hS) rfl rfl hl.1 rfl (lv_room (Nat.le_of_ble_eq_true rfl)) dX1_requirePour_27 ⟨(Nat.le_of_ble_eq_true rfl), (Nat.le_of_ble_eq_true rfl)⟩) hS (fun H1 locs hq hz1 hk1 hS => ?_)
  replace hq := hq.symm
  subst hq
  refine zvret hx hb hr hlocks hS (Nat.le_of_ble_eq_true rfl) (Nat.le_of_ble_eq_true rfl) ?_ dX1_requirePour_30
  rfl

set_option maxHeartbeats 4000000 in
set_option maxRecDepth 100000 in
theorem c_X1_existing_ok (l : Launch) (D : va_G) (cy : Nat → ClassId) (A : Nat → Prop) (ad : Nat → Nat) (ya : Nat → Nat → Int) (yi : Nat → Int) (pr : Nat → Option PS) (H0 : Heap) (i : Nat) (p0 : PS) (hw : zW D A ad (yE cy ad ya yi pr) H0) (hi : i < 10) (hp0 : pr i = some p0) : Met l yX1_existing wsX1_existing ({ frames := 1, cells := 0, slots := 0, locals := 20 }) (zPc D cy A [.ref (ad 0), .int (iI ((i : Int)))] H0) (zQq (fun z H1 => H1 = H0 ∧ z = some (ad (10 + 3 * i))) A) 0 0 A := by
  refine Met.ofW (cc := cX1_existing) (maxL := 3) (ret := (some (.object "FormworkYard$Pour"))) (by decide) rfl ?_
  intro pg en s mt args below meth c s₁ B hml hv
  obtain ⟨rfl, hH, hE⟩ := hv
  subst hH
  have hx := B.exec
  have hb := B.bytes
  have hr := B.returns
  have hts := atoms_spec (ws := wsX1_existing) B.pre
  have hown : s.vm.findClass RX1 = some mt.cls := findClass_of_methodNamed B.named
  have hlocks := B.notSynchronized
  have hinX1 : ∀ w ∈ u_ws RX1 TX1 9, w ∈ wsX1_existing := by decide +kernel
  have hS : va_S A s.heap s.heap [] := va_S.rf
  have hl := lv_entry ([.ref (ad 0), .int (iI ((i : Int)))]) (n := 3) (Nat.le_of_ble_eq_true rfl)
  rw [lg_entry_eq]
  generalize (lg_sl ([.ref (ad 0), .int (iI ((i : Int)))]) ++ List.replicate (3 - (lg_sl ([.ref (ad 0), .int (iI ((i : Int)))])).length) Slot.unset).toArray = ls at hl ⊢
  have hl : lv_has ls 3 [(0, .ref (ad 0)), (1, .int (iI ((i : Int))))] := hl
  refine lv_iload_n hx hb dX1_existing_0 rfl (lv_at hl 1 rfl) ?_
  refine zcalli (va_runS (As := [.int (iI ((i : Int)))]) (rest := []) ⟨hx, hb, hml, hown, hts⟩ (c_X1_isNumber l D cy A ad _ ((i : Int)) (by first | decide | (constructor <;> omega))) (va_cwS 1 hts gX1_existing_X1_isNumber rfl rfl rfl (by decide +kernel) ⟨(Nat.le_of_ble_eq_true rfl), (Nat.le_of_ble_eq_true rfl)⟩) (zPS hE hS) rfl rfl hl.1 rfl (lv_room (Nat.le_of_ble_eq_true rfl)) dX1_existing_1 ⟨(Nat.le_of_ble_eq_true rfl), (Nat.le_of_ble_eq_true rfl)⟩) hS (fun z_1 H1 locs hz_1 hq hz1 hk1 hS => ?_)
  obtain ⟨hqe, hv_1⟩ := hq
  replace hqe := hqe.symm
  subst hqe
  refine zf_eq (tgt := 16) hx hb dX1_existing_4 (by decide) (by first | decide | (constructor <;> omega)) (fun c_4 => ?_) (fun c_4 => ?_)
  · exfalso; omega
  · refine lv_aload_n hx hb dX1_existing_7 rfl (lv_at hl 0 rfl) ?_
    refine zget (C := RX1) (T := TX1) (N := 9) hx hb hts hinX1 hown hE hw 0 yE_0 rfl 4 (by decide) (hts (.fieldLink RX1 24 "FormworkYard" "pourList" "[LFormworkYard$Pour;") (by decide +kernel)) rfl dX1_existing_8 ?_
    refine lv_iload_n hx hb dX1_existing_11 rfl (lv_at hl 1 rfl) ?_
    refine zaald hx hb hE hw 5 yE_5 i rfl (by omega) (by omega) dX1_existing_12 ?_
    rcases hp_12 : pr i with _ | p_12
    · exfalso; rw [hp0] at hp_12; cases hp_12
    · rw [yR_1 hp_12]
      refine lv_goto (tgt := 17) hx hb dX1_existing_13 (by decide) ?_
      refine lv_astore_n (lv' := [(2, .ref (ad (10 + 3 * i))), (0, .ref (ad 0)), (1, .int (iI ((i : Int))))]) hx hb dX1_existing_17 rfl hl (by decide) rfl (fun ls hl => ?_)
      refine lv_aload_n hx hb dX1_existing_18 rfl (lv_at hl 0 rfl) ?_
      refine lv_ifnonnull (tgt := 30) hx hb dX1_existing_19 (by decide) ?_
      refine lv_aload_n hx hb dX1_existing_30 rfl (lv_at hl 0 rfl) ?_
      refine zaret (z := some (ad (10 + 3 * i))) hx hb hr hlocks hS (Nat.le_of_ble_eq_true rfl) (Nat.le_of_ble_eq_true rfl) ?_ dX1_existing_31
      exact ⟨rfl, rfl⟩

set_option maxHeartbeats 4000000 in
set_option maxRecDepth 100000 in
theorem c_X1_maturity_ok (l : Launch) (D : va_G) (cy : Nat → ClassId) (A : Nat → Prop) (ad : Nat → Nat) (ya : Nat → Nat → Int) (yi : Nat → Int) (pr : Nat → Option PS) (H0 : Heap) (T : Nat → Int) (a b : Int) (hw : zW D A ad (yE cy ad ya yi pr) H0) (h1 : 0 ≤ a ∧ a < 1000) (h2 : 0 ≤ b ∧ b < 1000) (hG : gnd T ya) (ht : tOK T) : Met l yX1_maturity wsX1_maturity ({ frames := 2, cells := 0, slots := 0, locals := 44 }) (zPc D cy A [.ref (ad 0), .int (iI (a)), .int (iI (b))] H0) (zQi (fun z H1 => H1 = H0 ∧ z = mat T a b) A) 0 0 A := by
  refine Met.ofW (cc := cX1_maturity) (maxL := 3) (ret := (some .int)) (by decide) rfl ?_
  intro pg en s mt args below meth c s₁ B hml hv
  obtain ⟨rfl, hH, hE⟩ := hv
  subst hH
  have hx := B.exec
  have hb := B.bytes
  have hr := B.returns
  have hts := atoms_spec (ws := wsX1_maturity) B.pre
  have hown : s.vm.findClass RX1 = some mt.cls := findClass_of_methodNamed B.named
  have hlocks := B.notSynchronized
  have hS : va_S A s.heap s.heap [] := va_S.rf
  have hl := lv_entry ([.ref (ad 0), .int (iI (a)), .int (iI (b))]) (n := 3) (Nat.le_of_ble_eq_true rfl)
  rw [lg_entry_eq]
  generalize (lg_sl ([.ref (ad 0), .int (iI (a)), .int (iI (b))]) ++ List.replicate (3 - (lg_sl ([.ref (ad 0), .int (iI (a)), .int (iI (b))])).length) Slot.unset).toArray = ls at hl ⊢
  have hl : lv_has ls 3 [(0, .ref (ad 0)), (1, .int (iI (a))), (2, .int (iI (b)))] := hl
  refine lv_iload_n hx hb dX1_maturity_0 rfl (lv_at hl 1 rfl) ?_
  refine zcallv (va_runS (As := [.int (iI (a))]) (rest := []) ⟨hx, hb, hml, hown, hts⟩ (c_X1_requireHour_ok l D cy A ad _ (a) (by omega)) (va_cwS 1 hts gX1_maturity_X1_requireHour rfl rfl rfl (by decide +kernel) ⟨(Nat.le_of_ble_eq_true rfl), (Nat.le_of_ble_eq_true rfl)⟩) (zPS hE hS) rfl rfl hl.1 rfl (lv_room (Nat.le_of_ble_eq_true rfl)) dX1_maturity_1 ⟨(Nat.le_of_ble_eq_true rfl), (Nat.le_of_ble_eq_true rfl)⟩) hS (fun H1 locs hq hz1 hk1 hS => ?_)
  replace hq := hq.symm
  subst hq
  refine lv_iload_n hx hb dX1_maturity_4 rfl (lv_at hl 2 rfl) ?_
  refine zcallv (va_runS (As := [.int (iI (b))]) (rest := []) ⟨hx, hb, hml, hown, hts⟩ (c_X1_requireHour_ok l D cy A ad _ (b) (by omega)) (va_cwS 1 hts gX1_maturity_X1_requireHour rfl rfl rfl (by decide +kernel) ⟨(Nat.le_of_ble_eq_true rfl), (Nat.le_of_ble_eq_true rfl)⟩) (zPS hE hS) rfl rfl hl.1 rfl (lv_room (Nat.le_of_ble_eq_true rfl)) dX1_maturity_5 ⟨(Nat.le_of_ble_eq_true rfl), (Nat.le_of_ble_eq_true rfl)⟩) hS (fun H1 locs hq hz1 hk1 hS => ?_)
  replace hq := hq.symm
  subst hq
  refine lv_aload_n hx hb dX1_maturity_8 rfl (lv_at hl 0 rfl) ?_
  refine lv_iload_n hx hb dX1_maturity_9 rfl (lv_at hl 1 rfl) ?_
  refine lv_iload_n hx hb dX1_maturity_10 rfl (lv_at hl 2 rfl) ?_
  refine zcalli (va_runV (As := [.int (iI (a)), .int (iI (b))]) (rest := []) ⟨hx, hb, hml, hown, hts⟩ (c_X1_gainBetween l D cy A ad ya yi pr _ T (a) (b) hw (by omega) (by first | decide | (constructor <;> omega)) hG ht) (cwV 2 hts gX1_maturity_X1_gainBetween rfl rfl rfl (by decide +kernel) ⟨(Nat.le_of_ble_eq_true rfl), (Nat.le_of_ble_eq_true rfl)⟩) (zPV hE hS hw (ci := 1) (k0 := 0) rfl yE_0) rfl rfl hl.1 rfl (lv_room (Nat.le_of_ble_eq_true rfl)) dX1_maturity_11 ⟨(Nat.le_of_ble_eq_true rfl), (Nat.le_of_ble_eq_true rfl)⟩) hS (fun z_11 H1 locs hz_11 hq hz1 hk1 hS => ?_)
  obtain ⟨hqe, hv_11⟩ := hq
  replace hqe := hqe.symm
  subst hqe
  refine ziret hx hb hr hlocks hS (Nat.le_of_ble_eq_true rfl) (Nat.le_of_ble_eq_true rfl) (by first | decide | (constructor <;> omega)) ?_ dX1_maturity_14
  exact ⟨rfl, hv_11⟩

set_option maxHeartbeats 4000000 in
set_option maxRecDepth 100000 in
theorem c_X1_strength_ok (l : Launch) (D : va_G) (cy : Nat → ClassId) (A : Nat → Prop) (ad : Nat → Nat) (ya : Nat → Nat → Int) (yi : Nat → Int) (pr : Nat → Option PS) (H0 : Heap) (v : Int) (hw : zW D A ad (yE cy ad ya yi pr) H0) (h1 : 0 ≤ v ∧ v ≤ 1000000) : Met l yX1_strength wsX1_strength ({ frames := 2, cells := 0, slots := 0, locals := 42 }) (zPc D cy A [.ref (ad 0), .int (iI (v))] H0) (zQi (fun z H1 => H1 = H0 ∧ z = strg v) A) 0 0 A := by
  refine Met.ofW (cc := cX1_strength) (maxL := 2) (ret := (some .int)) (by decide) rfl ?_
  intro pg en s mt args below meth c s₁ B hml hv
  obtain ⟨rfl, hH, hE⟩ := hv
  subst hH
  have hx := B.exec
  have hb := B.bytes
  have hr := B.returns
  have hts := atoms_spec (ws := wsX1_strength) B.pre
  have hown : s.vm.findClass RX1 = some mt.cls := findClass_of_methodNamed B.named
  have hlocks := B.notSynchronized
  have hS : va_S A s.heap s.heap [] := va_S.rf
  have hl := lv_entry ([.ref (ad 0), .int (iI (v))]) (n := 2) (Nat.le_of_ble_eq_true rfl)
  rw [lg_entry_eq]
  generalize (lg_sl ([.ref (ad 0), .int (iI (v))]) ++ List.replicate (2 - (lg_sl ([.ref (ad 0), .int (iI (v))])).length) Slot.unset).toArray = ls at hl ⊢
  have hl : lv_has ls 2 [(0, .ref (ad 0)), (1, .int (iI (v)))] := hl
  refine lv_iload_n hx hb dX1_strength_0 rfl (lv_at hl 1 rfl) ?_
  refine zi_const hx hb dX1_strength_1 ?_
  refine lv_ldc (v := iI 1000000) hx hb hown (hts (.constant RX1 69 (iI 1000000)) (by decide +kernel)) dX1_strength_2 ?_
  refine zcallv (va_runS (As := [.int (iI (v)), .int (iI (0)), .int (iI (1000000))]) (rest := []) ⟨hx, hb, hml, hown, hts⟩ (c_X1_requireRange_ok l D cy A ad _ (v) (0) (1000000) (by omega) (by first | decide | (constructor <;> omega)) (by first | decide | (constructor <;> omega))) (va_cwS 3 hts gX1_strength_X1_requireRange rfl rfl rfl (by decide +kernel) ⟨(Nat.le_of_ble_eq_true rfl), (Nat.le_of_ble_eq_true rfl)⟩) (zPS hE hS) rfl rfl hl.1 rfl (lv_room (Nat.le_of_ble_eq_true rfl)) dX1_strength_4 ⟨(Nat.le_of_ble_eq_true rfl), (Nat.le_of_ble_eq_true rfl)⟩) hS (fun H1 locs hq hz1 hk1 hS => ?_)
  replace hq := hq.symm
  subst hq
  refine lv_iload_n hx hb dX1_strength_7 rfl (lv_at hl 1 rfl) ?_
  refine zcalli (va_runS (As := [.int (iI (v))]) (rest := []) ⟨hx, hb, hml, hown, hts⟩ (c_X1_strengthAt l D cy A ad _ (v) (by omega)) (va_cwS 1 hts gX1_strength_X1_strengthAt rfl rfl rfl (by decide +kernel) ⟨(Nat.le_of_ble_eq_true rfl), (Nat.le_of_ble_eq_true rfl)⟩) (zPS hE hS) rfl rfl hl.1 rfl (lv_room (Nat.le_of_ble_eq_true rfl)) dX1_strength_8 ⟨(Nat.le_of_ble_eq_true rfl), (Nat.le_of_ble_eq_true rfl)⟩) hS (fun z_8 H1 locs hz_8 hq hz1 hk1 hS => ?_)
  obtain ⟨hqe, hv_8⟩ := hq
  replace hqe := hqe.symm
  subst hqe
  refine ziret hx hb hr hlocks hS (Nat.le_of_ble_eq_true rfl) (Nat.le_of_ble_eq_true rfl) (by first | decide | (constructor <;> omega)) ?_ dX1_strength_11
  exact ⟨rfl, hv_8⟩

set_option maxHeartbeats 4000000 in
set_option maxRecDepth 100000 in
theorem c_X1_setPanels_ok (l : Launch) (D : va_G) (cy : Nat → ClassId) (A : Nat → Prop) (ad : Nat → Nat) (ya : Nat → Nat → Int) (yi : Nat → Int) (pr : Nat → Option PS) (H0 : Heap) (v : Int) (hw : zW D A ad (yE cy ad ya yi pr) H0) (h1 : 0 ≤ v ∧ v ≤ 60) (hg : yB yi) : Met l yX1_setPanels wsX1_setPanels ({ frames := 2, cells := 0, slots := 0, locals := 42 }) (zPc D cy A [.ref (ad 0), .int (iI (v))] H0) (zQi (fun z H1 => zW D A ad (yE cy ad ya (va_up yi 5 v) pr) H1 ∧ z = yi 5) A) 0 0 A := by
  refine Met.ofW (cc := cX1_setPanels) (maxL := 3) (ret := (some .int)) (by decide) rfl ?_
  intro pg en s mt args below meth c s₁ B hml hv
  obtain ⟨rfl, hH, hE⟩ := hv
  subst hH
  have hx := B.exec
  have hb := B.bytes
  have hr := B.returns
  have hts := atoms_spec (ws := wsX1_setPanels) B.pre
  have hown : s.vm.findClass RX1 = some mt.cls := findClass_of_methodNamed B.named
  have hlocks := B.notSynchronized
  have hinX1 : ∀ w ∈ u_ws RX1 TX1 9, w ∈ wsX1_setPanels := by decide +kernel
  have hS : va_S A s.heap s.heap [] := va_S.rf
  have hl := lv_entry ([.ref (ad 0), .int (iI (v))]) (n := 3) (Nat.le_of_ble_eq_true rfl)
  rw [lg_entry_eq]
  generalize (lg_sl ([.ref (ad 0), .int (iI (v))]) ++ List.replicate (3 - (lg_sl ([.ref (ad 0), .int (iI (v))])).length) Slot.unset).toArray = ls at hl ⊢
  have hl : lv_has ls 3 [(0, .ref (ad 0)), (1, .int (iI (v)))] := hl
  obtain ⟨g1, g2, g3, g4⟩ := id hg
  refine lv_iload_n hx hb dX1_setPanels_0 rfl (lv_at hl 1 rfl) ?_
  refine zi_const hx hb dX1_setPanels_1 ?_
  refine zi_bipush hx hb dX1_setPanels_2 (by decide) ?_
  refine zcallv (va_runS (As := [.int (iI (v)), .int (iI (0)), .int (iI (60))]) (rest := []) ⟨hx, hb, hml, hown, hts⟩ (c_X1_requireRange_ok l D cy A ad _ (v) (0) (60) (by omega) (by first | decide | (constructor <;> omega)) (by first | decide | (constructor <;> omega))) (va_cwS 3 hts gX1_setPanels_X1_requireRange rfl rfl rfl (by decide +kernel) ⟨(Nat.le_of_ble_eq_true rfl), (Nat.le_of_ble_eq_true rfl)⟩) (zPS hE hS) rfl rfl hl.1 rfl (lv_room (Nat.le_of_ble_eq_true rfl)) dX1_setPanels_4 ⟨(Nat.le_of_ble_eq_true rfl), (Nat.le_of_ble_eq_true rfl)⟩) hS (fun H1 locs hq hz1 hk1 hS => ?_)
  replace hq := hq.symm
  subst hq
  refine lv_aload_n hx hb dX1_setPanels_7 rfl (lv_at hl 0 rfl) ?_
  refine zget (C := RX1) (T := TX1) (N := 9) hx hb hts hinX1 hown hE hw 0 yE_0 rfl 5 (by decide) (hts (.fieldLink RX1 28 "FormworkYard" "yardPanels" "I") (by decide +kernel)) rfl dX1_setPanels_8 ?_
  refine zi_top (fun x_11 hx_11 => ?_)
  refine lv_istore_n (lv' := [(2, .int (iI (x_11))), (0, .ref (ad 0)), (1, .int (iI (v)))]) hx hb dX1_setPanels_11 rfl hl (by decide) rfl (fun ls hl => ?_)
  refine lv_aload_n hx hb dX1_setPanels_12 rfl (lv_at hl 1 rfl) ?_
  refine lv_iload_n hx hb dX1_setPanels_13 rfl (lv_at hl 2 rfl) ?_
  refine zput (C := RX1) (T := TX1) (N := 9) hx hb hts hinX1 tyX1 tyX1_ok nmX1 hown hE hS hw 0 yE_0 rfl 5 (by decide) (hts (.fieldLink RX1 28 "FormworkYard" "yardPanels" "I") (by decide +kernel)) rfl (ty := .int) (by decide +kernel) rfl rfl (Nat.le_of_ble_eq_true rfl) dX1_setPanels_14 (fun H locs hw hS => ?_)
  have hw := hw.cong (yU_i 5 (by decide) (v))
  refine lv_iload_n hx hb dX1_setPanels_17 rfl (lv_at hl 0 rfl) ?_
  refine ziret hx hb hr hlocks hS (Nat.le_of_ble_eq_true rfl) (Nat.le_of_ble_eq_true rfl) (by first | decide | (constructor <;> omega)) ?_ dX1_setPanels_18
  exact ⟨hw, by omega⟩

set_option maxHeartbeats 4000000 in
set_option maxRecDepth 100000 in
theorem c_X1_setRates_ok (l : Launch) (D : va_G) (cy : Nat → ClassId) (A : Nat → Prop) (ad : Nat → Nat) (ya : Nat → Nat → Int) (yi : Nat → Int) (pr : Nat → Option PS) (H0 : Heap) (T : Nat → Int) (v u : Int) (hw : zW D A ad (yE cy ad ya yi pr) H0) (h1 : 1 ≤ v ∧ v ≤ 50) (h2 : 1 ≤ u ∧ u ≤ 50) (hpa : ∀ j p, j < 10 → pr j = some p → pB p) (hg : yB yi) (hG : gnd T ya) (ht : tOK T) : Met l yX1_setRates wsX1_setRates ({ frames := 5, cells := 0, slots := 0, locals := 114 }) (zPc D cy A [.ref (ad 0), .int (iI (v)), .int (iI (u))] H0) (zQi (fun z H1 => ∃ pq, zW D A ad (yE cy ad ya (va_up yi 6 (min v u)) pq) H1 ∧ schA T (va_up yi 6 (min v u)) pr pq 10 ∧ z = min v u) A) 0 0 A := by
  refine Met.ofW (cc := cX1_setRates) (maxL := 3) (ret := (some .int)) (by decide) rfl ?_
  intro pg en s mt args below meth c s₁ B hml hv
  obtain ⟨rfl, hH, hE⟩ := hv
  subst hH
  have hx := B.exec
  have hb := B.bytes
  have hr := B.returns
  have hts := atoms_spec (ws := wsX1_setRates) B.pre
  have hown : s.vm.findClass RX1 = some mt.cls := findClass_of_methodNamed B.named
  have hlocks := B.notSynchronized
  have hinX1 : ∀ w ∈ u_ws RX1 TX1 9, w ∈ wsX1_setRates := by decide +kernel
  have hS : va_S A s.heap s.heap [] := va_S.rf
  have hl := lv_entry ([.ref (ad 0), .int (iI (v)), .int (iI (u))]) (n := 3) (Nat.le_of_ble_eq_true rfl)
  rw [lg_entry_eq]
  generalize (lg_sl ([.ref (ad 0), .int (iI (v)), .int (iI (u))]) ++ List.replicate (3 - (lg_sl ([.ref (ad 0), .int (iI (v)), .int (iI (u))])).length) Slot.unset).toArray = ls at hl ⊢
  have hl : lv_has ls 3 [(0, .ref (ad 0)), (1, .int (iI (v))), (2, .int (iI (u)))] := hl
  obtain ⟨g1, g2, g3, g4⟩ := id hg
  refine lv_iload_n hx hb dX1_setRates_0 rfl (lv_at hl 1 rfl) ?_
  refine zi_const hx hb dX1_setRates_1 ?_
  refine zi_bipush hx hb dX1_setRates_2 (by decide) ?_
  refine zcallv (va_runS (As := [.int (iI (v)), .int (iI (1)), .int (iI (50))]) (rest := []) ⟨hx, hb, hml, hown, hts⟩ (c_X1_requireRange_ok l D cy A ad _ (v) (1) (50) (by omega) (by first | decide | (constructor <;> omega)) (by first | decide | (constructor <;> omega))) (va_cwS 3 hts gX1_setRates_X1_requireRange rfl rfl rfl (by decide +kernel) ⟨(Nat.le_of_ble_eq_true rfl), (Nat.le_of_ble_eq_true rfl)⟩) (zPS hE hS) rfl rfl hl.1 rfl (lv_room (Nat.le_of_ble_eq_true rfl)) dX1_setRates_4 ⟨(Nat.le_of_ble_eq_true rfl), (Nat.le_of_ble_eq_true rfl)⟩) hS (fun H1 locs hq hz1 hk1 hS => ?_)
  replace hq := hq.symm
  subst hq
  refine lv_iload_n hx hb dX1_setRates_7 rfl (lv_at hl 2 rfl) ?_
  refine zi_const hx hb dX1_setRates_8 ?_
  refine zi_bipush hx hb dX1_setRates_9 (by decide) ?_
  refine zcallv (va_runS (As := [.int (iI (u)), .int (iI (1)), .int (iI (50))]) (rest := []) ⟨hx, hb, hml, hown, hts⟩ (c_X1_requireRange_ok l D cy A ad _ (u) (1) (50) (by omega) (by first | decide | (constructor <;> omega)) (by first | decide | (constructor <;> omega))) (va_cwS 3 hts gX1_setRates_X1_requireRange rfl rfl rfl (by decide +kernel) ⟨(Nat.le_of_ble_eq_true rfl), (Nat.le_of_ble_eq_true rfl)⟩) (zPS hE hS) rfl rfl hl.1 rfl (lv_room (Nat.le_of_ble_eq_true rfl)) dX1_setRates_11 ⟨(Nat.le_of_ble_eq_true rfl), (Nat.le_of_ble_eq_true rfl)⟩) hS (fun H1 locs hq hz1 hk1 hS => ?_)
  replace hq := hq.symm
  subst hq
  refine lv_aload_n hx hb dX1_setRates_14 rfl (lv_at hl 0 rfl) ?_
  refine lv_iload_n hx hb dX1_setRates_15 rfl (lv_at hl 1 rfl) ?_
  refine lv_iload_n hx hb dX1_setRates_16 rfl (lv_at hl 2 rfl) ?_
  refine va_mmin hx hb (hml.trans hl.1.symm) hown (hts (.methodLink RX1 74 Lib.Math.min.name) (by decide +kernel)) (hts (.static Lib.Math.min.name) (by decide +kernel)) (hts (.initialized "java/lang/Math") (by decide +kernel)) (hts (.code Lib.Math.min.name Lib.Math.min.code 2 (some .int)) (by decide +kernel)) (Nat.le_of_ble_eq_true rfl) (Nat.le_of_ble_eq_true rfl) (Nat.le_of_ble_eq_true rfl) (Nat.le_of_ble_eq_true rfl) dX1_setRates_17 ?_
  rw [iI_min (a := v) (b := u) (by first | decide | (constructor <;> omega)) (by first | decide | (constructor <;> omega))]
  refine zi_top (fun x_17 hx_17 => ?_)
  refine zput (C := RX1) (T := TX1) (N := 9) hx hb hts hinX1 tyX1 tyX1_ok nmX1 hown hE hS hw 0 yE_0 rfl 6 (by decide) (hts (.fieldLink RX1 32 "FormworkYard" "rate" "I") (by decide +kernel)) rfl (ty := .int) (by decide +kernel) rfl rfl (Nat.le_of_ble_eq_true rfl) dX1_setRates_20 (fun H locs hw hS => ?_)
  have hw := hw.cong (yU_i 6 (by decide) (x_17))
  have hg2 : yB (va_up yi 6 (x_17)) := by simp [yB, va_up]; omega
  refine lv_aload_n hx hb dX1_setRates_23 rfl (lv_at hl 0 rfl) ?_
  refine zcallv (va_runV (As := []) (rest := []) ⟨hx, hb, hml, hown, hts⟩ (c_X1_scheduleAll l D cy A ad ya (va_up yi 6 (x_17)) pr _ T hw hpa hg2 hG ht) (cwV 0 hts gX1_setRates_X1_scheduleAll rfl rfl rfl (by decide +kernel) ⟨(Nat.le_of_ble_eq_true rfl), (Nat.le_of_ble_eq_true rfl)⟩) (zPV hE hS hw (ci := 1) (k0 := 0) rfl yE_0) rfl rfl hl.1 rfl (lv_room (Nat.le_of_ble_eq_true rfl)) dX1_setRates_24 ⟨(Nat.le_of_ble_eq_true rfl), (Nat.le_of_ble_eq_true rfl)⟩) hS (fun H1 locs hq hz1 hk1 hS => ?_)
  obtain ⟨pr_s24, hw, hsA_24⟩ := hq
  refine lv_aload_n hx hb dX1_setRates_27 rfl (lv_at hl 0 rfl) ?_
  refine zget (C := RX1) (T := TX1) (N := 9) hx hb hts hinX1 hown hE hw 0 yE_0 rfl 6 (by decide) (hts (.fieldLink RX1 32 "FormworkYard" "rate" "I") (by decide +kernel)) rfl dX1_setRates_28 ?_
  refine zi_top (fun v_28 hv_28 => ?_)
  simp [va_up] at hv_28
  refine ziret hx hb hr hlocks hS (Nat.le_of_ble_eq_true rfl) (Nat.le_of_ble_eq_true rfl) (by first | decide | (constructor <;> omega)) ?_ dX1_setRates_31
  rw [← hx_17]
  exact ⟨_, hw, hsA_24, by omega⟩

set_option maxHeartbeats 4000000 in
set_option maxRecDepth 100000 in
theorem c_X1_setCrew_ok (l : Launch) (D : va_G) (cy : Nat → ClassId) (A : Nat → Prop) (ad : Nat → Nat) (ya : Nat → Nat → Int) (yi : Nat → Int) (pr : Nat → Option PS) (H0 : Heap) (T : Nat → Int) (v u : Int) (hw : zW D A ad (yE cy ad ya yi pr) H0) (h1 : 0 ≤ v ∧ v ≤ 24) (h2 : 0 ≤ u ∧ u ≤ 24) (hpa : ∀ j p, j < 10 → pr j = some p → pB p) (hg : yB yi) (hG : gnd T ya) (ht : tOK T) : Met l yX1_setCrew wsX1_setCrew ({ frames := 5, cells := 0, slots := 0, locals := 114 }) (zPc D cy A [.ref (ad 0), .int (iI (v)), .int (iI (u))] H0) (zQv (fun H1 => ∃ pq, zW D A ad (yE cy ad ya (va_up (va_up yi 7 v) 8 u) pq) H1 ∧ schA T (va_up (va_up yi 7 v) 8 u) pr pq 10) A) 0 0 A := by
  refine Met.ofW (cc := cX1_setCrew) (maxL := 3) (ret := none) (by decide) rfl ?_
  intro pg en s mt args below meth c s₁ B hml hv
  obtain ⟨rfl, hH, hE⟩ := hv
  subst hH
  have hx := B.exec
  have hb := B.bytes
  have hr := B.returns
  have hts := atoms_spec (ws := wsX1_setCrew) B.pre
  have hown : s.vm.findClass RX1 = some mt.cls := findClass_of_methodNamed B.named
  have hlocks := B.notSynchronized
  have hinX1 : ∀ w ∈ u_ws RX1 TX1 9, w ∈ wsX1_setCrew := by decide +kernel
  have hS : va_S A s.heap s.heap [] := va_S.rf
  have hl := lv_entry ([.ref (ad 0), .int (iI (v)), .int (iI (u))]) (n := 3) (Nat.le_of_ble_eq_true rfl)
  rw [lg_entry_eq]
  generalize (lg_sl ([.ref (ad 0), .int (iI (v)), .int (iI (u))]) ++ List.replicate (3 - (lg_sl ([.ref (ad 0), .int (iI (v)), .int (iI (u))])).length) Slot.unset).toArray = ls at hl ⊢
  have hl : lv_has ls 3 [(0, .ref (ad 0)), (1, .int (iI (v))), (2, .int (iI (u)))] := hl
  obtain ⟨g1, g2, g3, g4⟩ := id hg
  refine lv_iload_n hx hb dX1_setCrew_0 rfl (lv_at hl 1 rfl) ?_
  refine zi_const hx hb dX1_setCrew_1 ?_
  refine zi_bipush hx hb dX1_setCrew_2 (by decide) ?_
  refine zcallv (va_runS (As := [.int (iI (v)), .int (iI (0)), .int (iI (24))]) (rest := []) ⟨hx, hb, hml, hown, hts⟩ (c_X1_requireRange_ok l D cy A ad _ (v) (0) (24) (by omega) (by first | decide | (constructor <;> omega)) (by first | decide | (constructor <;> omega))) (va_cwS 3 hts gX1_setCrew_X1_requireRange rfl rfl rfl (by decide +kernel) ⟨(Nat.le_of_ble_eq_true rfl), (Nat.le_of_ble_eq_true rfl)⟩) (zPS hE hS) rfl rfl hl.1 rfl (lv_room (Nat.le_of_ble_eq_true rfl)) dX1_setCrew_4 ⟨(Nat.le_of_ble_eq_true rfl), (Nat.le_of_ble_eq_true rfl)⟩) hS (fun H1 locs hq hz1 hk1 hS => ?_)
  replace hq := hq.symm
  subst hq
  refine lv_iload_n hx hb dX1_setCrew_7 rfl (lv_at hl 2 rfl) ?_
  refine zi_const hx hb dX1_setCrew_8 ?_
  refine zi_bipush hx hb dX1_setCrew_9 (by decide) ?_
  refine zcallv (va_runS (As := [.int (iI (u)), .int (iI (0)), .int (iI (24))]) (rest := []) ⟨hx, hb, hml, hown, hts⟩ (c_X1_requireRange_ok l D cy A ad _ (u) (0) (24) (by omega) (by first | decide | (constructor <;> omega)) (by first | decide | (constructor <;> omega))) (va_cwS 3 hts gX1_setCrew_X1_requireRange rfl rfl rfl (by decide +kernel) ⟨(Nat.le_of_ble_eq_true rfl), (Nat.le_of_ble_eq_true rfl)⟩) (zPS hE hS) rfl rfl hl.1 rfl (lv_room (Nat.le_of_ble_eq_true rfl)) dX1_setCrew_11 ⟨(Nat.le_of_ble_eq_true rfl), (Nat.le_of_ble_eq_true rfl)⟩) hS (fun H1 locs hq hz1 hk1 hS => ?_)
  replace hq := hq.symm
  subst hq
  refine lv_aload_n hx hb dX1_setCrew_14 rfl (lv_at hl 0 rfl) ?_
  refine lv_iload_n hx hb dX1_setCrew_15 rfl (lv_at hl 1 rfl) ?_
  refine zput (C := RX1) (T := TX1) (N := 9) hx hb hts hinX1 tyX1 tyX1_ok nmX1 hown hE hS hw 0 yE_0 rfl 7 (by decide) (hts (.fieldLink RX1 35 "FormworkYard" "setUpHours" "I") (by decide +kernel)) rfl (ty := .int) (by decide +kernel) rfl rfl (Nat.le_of_ble_eq_true rfl) dX1_setCrew_16 (fun H locs hw hS => ?_)
  have hw := hw.cong (yU_i 7 (by decide) (v))
  refine lv_aload_n hx hb dX1_setCrew_19 rfl (lv_at hl 0 rfl) ?_
  refine lv_iload_n hx hb dX1_setCrew_20 rfl (lv_at hl 2 rfl) ?_
  refine zput (C := RX1) (T := TX1) (N := 9) hx hb hts hinX1 tyX1 tyX1_ok nmX1 hown hE hS hw 0 yE_0 rfl 8 (by decide) (hts (.fieldLink RX1 38 "FormworkYard" "cleaningHours" "I") (by decide +kernel)) rfl (ty := .int) (by decide +kernel) rfl rfl (Nat.le_of_ble_eq_true rfl) dX1_setCrew_21 (fun H locs hw hS => ?_)
  have hw := hw.cong (yU_i 8 (by decide) (u))
  have hg2 : yB (va_up (va_up yi 7 (v)) 8 (u)) := by simp [yB, va_up]; omega
  refine lv_aload_n hx hb dX1_setCrew_24 rfl (lv_at hl 0 rfl) ?_
  refine zcallv (va_runV (As := []) (rest := []) ⟨hx, hb, hml, hown, hts⟩ (c_X1_scheduleAll l D cy A ad ya (va_up (va_up yi 7 (v)) 8 (u)) pr _ T hw hpa hg2 hG ht) (cwV 0 hts gX1_setCrew_X1_scheduleAll rfl rfl rfl (by decide +kernel) ⟨(Nat.le_of_ble_eq_true rfl), (Nat.le_of_ble_eq_true rfl)⟩) (zPV hE hS hw (ci := 1) (k0 := 0) rfl yE_0) rfl rfl hl.1 rfl (lv_room (Nat.le_of_ble_eq_true rfl)) dX1_setCrew_25 ⟨(Nat.le_of_ble_eq_true rfl), (Nat.le_of_ble_eq_true rfl)⟩) hS (fun H1 locs hq hz1 hk1 hS => ?_)
  obtain ⟨pr_s25, hw, hsA_25⟩ := hq
  refine zvret hx hb hr hlocks hS (Nat.le_of_ble_eq_true rfl) (Nat.le_of_ble_eq_true rfl) ?_ dX1_setCrew_28
  exact ⟨_, hw, hsA_25⟩

set_option maxHeartbeats 4000000 in
set_option maxRecDepth 100000 in
theorem c_X1_setTemperature_ok (l : Launch) (D : va_G) (cy : Nat → ClassId) (A : Nat → Prop) (ad : Nat → Nat) (ya : Nat → Nat → Int) (yi : Nat → Int) (pr : Nat → Option PS) (H0 : Heap) (a b t : Int) (hw : zW D A ad (yE cy ad ya yi pr) H0) (h1 : 0 ≤ a ∧ a ≤ b ∧ b < 1000) (h2 : -40 ≤ t ∧ t ≤ 50) (hpa : ∀ j p, j < 10 → pr j = some p → pB p) (hg : yB yi) (ht : tOK (ya 0)) : Met l yX1_setTemperature wsX1_setTemperature ({ frames := 5, cells := 0, slots := 0, locals := 114 }) (zPc D cy A [.ref (ad 0), .int (iI (a)), .int (iI (b)), .int (iI (t))] H0) (zQv (fun H1 => ∃ yb pq, zW D A ad (yE cy ad yb yi pq) H1 ∧ yb 0 = setT (ya 0) a b t ∧ gnd (setT (ya 0) a b t) yb ∧ schA (setT (ya 0) a b t) yi pr pq 10) A) 0 0 A := by
  refine Met.ofW (cc := cX1_setTemperature) (maxL := 5) (ret := none) (by decide) rfl ?_
  intro pg en s mt args below meth c s₁ B hml hv
  obtain ⟨rfl, hH, hE⟩ := hv
  subst hH
  have hx := B.exec
  have hb := B.bytes
  have hr := B.returns
  have hts := atoms_spec (ws := wsX1_setTemperature) B.pre
  have hown : s.vm.findClass RX1 = some mt.cls := findClass_of_methodNamed B.named
  have hlocks := B.notSynchronized
  have hinX1 : ∀ w ∈ u_ws RX1 TX1 9, w ∈ wsX1_setTemperature := by decide +kernel
  have hS : va_S A s.heap s.heap [] := va_S.rf
  have hl := lv_entry ([.ref (ad 0), .int (iI (a)), .int (iI (b)), .int (iI (t))]) (n := 5) (Nat.le_of_ble_eq_true rfl)
  rw [lg_entry_eq]
  generalize (lg_sl ([.ref (ad 0), .int (iI (a)), .int (iI (b)), .int (iI (t))]) ++ List.replicate (5 - (lg_sl ([.ref (ad 0), .int (iI (a)), .int (iI (b)), .int (iI (t))])).length) Slot.unset).toArray = ls at hl ⊢
  have hl : lv_has ls 5 [(0, .ref (ad 0)), (1, .int (iI (a))), (2, .int (iI (b))), (3, .int (iI (t)))] := hl
  refine lv_iload_n hx hb dX1_setTemperature_0 rfl (lv_at hl 1 rfl) ?_
  refine zcallv (va_runS (As := [.int (iI (a))]) (rest := []) ⟨hx, hb, hml, hown, hts⟩ (c_X1_requireHour_ok l D cy A ad _ (a) (by omega)) (va_cwS 1 hts gX1_setTemperature_X1_requireHour rfl rfl rfl (by decide +kernel) ⟨(Nat.le_of_ble_eq_true rfl), (Nat.le_of_ble_eq_true rfl)⟩) (zPS hE hS) rfl rfl hl.1 rfl (lv_room (Nat.le_of_ble_eq_true rfl)) dX1_setTemperature_1 ⟨(Nat.le_of_ble_eq_true rfl), (Nat.le_of_ble_eq_true rfl)⟩) hS (fun H1 locs hq hz1 hk1 hS => ?_)
  replace hq := hq.symm
  subst hq
  refine lv_iload_n hx hb dX1_setTemperature_4 rfl (lv_at hl 2 rfl) ?_
  refine zcallv (va_runS (As := [.int (iI (b))]) (rest := []) ⟨hx, hb, hml, hown, hts⟩ (c_X1_requireHour_ok l D cy A ad _ (b) (by omega)) (va_cwS 1 hts gX1_setTemperature_X1_requireHour rfl rfl rfl (by decide +kernel) ⟨(Nat.le_of_ble_eq_true rfl), (Nat.le_of_ble_eq_true rfl)⟩) (zPS hE hS) rfl rfl hl.1 rfl (lv_room (Nat.le_of_ble_eq_true rfl)) dX1_setTemperature_5 ⟨(Nat.le_of_ble_eq_true rfl), (Nat.le_of_ble_eq_true rfl)⟩) hS (fun H1 locs hq hz1 hk1 hS => ?_)
  replace hq := hq.symm
  subst hq
  refine lv_iload_n hx hb dX1_setTemperature_8 rfl (lv_at hl 1 rfl) ?_
  refine lv_iload_n hx hb dX1_setTemperature_9 rfl (lv_at hl 2 rfl) ?_
  refine zc_gt (tgt := 17) hx hb dX1_setTemperature_10 (by decide) (by first | decide | (constructor <;> omega)) (by first | decide | (constructor <;> omega)) (fun c_10 => ?_) (fun c_10 => ?_)
  · exfalso; omega
  · refine zi_const hx hb dX1_setTemperature_13 ?_
    refine lv_goto (tgt := 18) hx hb dX1_setTemperature_14 (by decide) ?_
    refine zcallv (va_runS (As := [.int (iI (1))]) (rest := []) ⟨hx, hb, hml, hown, hts⟩ (c_X1_require_ok l D cy A ad _ (1) (by omega)) (va_cwS 1 hts gX1_setTemperature_X1_require rfl rfl rfl (by decide +kernel) ⟨(Nat.le_of_ble_eq_true rfl), (Nat.le_of_ble_eq_true rfl)⟩) (zPS hE hS) rfl rfl hl.1 rfl (lv_room (Nat.le_of_ble_eq_true rfl)) dX1_setTemperature_18 ⟨(Nat.le_of_ble_eq_true rfl), (Nat.le_of_ble_eq_true rfl)⟩) hS (fun H1 locs hq hz1 hk1 hS => ?_)
    replace hq := hq.symm
    subst hq
    refine lv_iload_n hx hb dX1_setTemperature_21 rfl (lv_at hl 3 rfl) ?_
    refine zi_bipush hx hb dX1_setTemperature_22 (by decide) ?_
    refine zi_bipush hx hb dX1_setTemperature_24 (by decide) ?_
    refine zcallv (va_runS (As := [.int (iI (t)), .int (iI ((-40))), .int (iI (50))]) (rest := []) ⟨hx, hb, hml, hown, hts⟩ (c_X1_requireRange_ok l D cy A ad _ (t) ((-40)) (50) (by omega) (by first | decide | (constructor <;> omega)) (by first | decide | (constructor <;> omega))) (va_cwS 3 hts gX1_setTemperature_X1_requireRange rfl rfl rfl (by decide +kernel) ⟨(Nat.le_of_ble_eq_true rfl), (Nat.le_of_ble_eq_true rfl)⟩) (zPS hE hS) rfl rfl hl.1 rfl (lv_room (Nat.le_of_ble_eq_true rfl)) dX1_setTemperature_26 ⟨(Nat.le_of_ble_eq_true rfl), (Nat.le_of_ble_eq_true rfl)⟩) hS (fun H1 locs hq hz1 hk1 hS => ?_)
    replace hq := hq.symm
    subst hq
    refine lv_iload_n hx hb dX1_setTemperature_29 rfl (lv_at hl 1 rfl) ?_
    refine lv_istore (lv' := [(4, .int (iI (a))), (0, .ref (ad 0)), (1, .int (iI (a))), (2, .int (iI (b))), (3, .int (iI (t)))]) hx hb dX1_setTemperature_30 hl (by decide) rfl (fun ls hl => ?_)
    have loop_32 : ∀ (n : Nat) (h : Int) (yb : Nat → Nat → Int) (H : Heap) (locs : List Loc) (ls : Array Slot), (b + 1 - h).toNat < n → (a ≤ h ∧ h ≤ b + 1) → (∀ r, r ≠ 0 → yb r = ya r) → (yb 0 = setT (ya 0) a (h - 1) t) → zW D A ad (yE cy ad yb yi pr) H → va_S A s.heap H locs → lv_has ls 5 [(4, .int (iI (h))), (0, .ref (ad 0)), (1, .int (iI (a))), (2, .int (iI (b))), (3, .int (iI (t)))] → W pg l en (headSpec wsX1_setTemperature ({ frames := 5, cells := 0, slots := 0, locals := 114 })).room s mt ([.ref (ad 0), .int (iI (a)), .int (iI (b)), .int (iI (t))] : List Value).toArray below meth c H locs 0 0 (MQ below (zQv (fun H1 => ∃ yb pq, zW D A ad (yE cy ad yb yi pq) H1 ∧ yb 0 = setT (ya 0) a b t ∧ gnd (setT (ya 0) a b t) yb ∧ schA (setT (ya 0) a b t) yi pr pq 10) A) ([.ref (ad 0), .int (iI (a)), .int (iI (b)), .int (iI (t))] : List Value).toArray s 0 0 A) (F0 mt 32 ls []) := by
      intro n
      induction n with
      | zero =>
        intro h yb H locs ls hm hi hr9 hT0
        exfalso; omega
      | succ n ih =>
        intro h yb H locs ls hm hi hr9 hT0 hw hS hl
        refine lv_iload hx hb dX1_setTemperature_32 (lv_at hl 0 rfl) ?_
        refine lv_iload_n hx hb dX1_setTemperature_34 rfl (lv_at hl 3 rfl) ?_
        refine zc_gt (tgt := 60) hx hb dX1_setTemperature_35 (by decide) (by first | decide | (constructor <;> omega)) (by first | decide | (constructor <;> omega)) (fun c_35 => ?_) (fun c_35 => ?_)
        · have hTb : yb 0 = setT (ya 0) a b t := by rw [hT0, show h - 1 = b by omega]
          have ht2 : tOK (yb 0) := by rw [hTb]; exact setT_ok ht h2.1 h2.2
          refine lv_aload_n hx hb dX1_setTemperature_60 rfl (lv_at hl 1 rfl) ?_
          refine zcallv (va_runV (As := []) (rest := []) ⟨hx, hb, hml, hown, hts⟩ (c_X1_sumGains l D cy A ad yb yi pr _ hw ht2) (cwV 0 hts gX1_setTemperature_X1_sumGains rfl rfl rfl (by decide +kernel) ⟨(Nat.le_of_ble_eq_true rfl), (Nat.le_of_ble_eq_true rfl)⟩) (zPV hE hS hw (ci := 1) (k0 := 0) rfl yE_0) rfl rfl hl.1 rfl (lv_room (Nat.le_of_ble_eq_true rfl)) dX1_setTemperature_61 ⟨(Nat.le_of_ble_eq_true rfl), (Nat.le_of_ble_eq_true rfl)⟩) hS (fun H1 locs hq hz1 hk1 hS => ?_)
          obtain ⟨ya_c61, hw, hgr_61, hgg_61⟩ := hq
          have hTc : ya_c61 0 = setT (ya 0) a b t := (hgr_61 0 (by decide)).trans hTb
          have hGc : gnd (setT (ya 0) a b t) ya_c61 := by rw [← hTb]; exact hgg_61
          have htc : tOK (setT (ya 0) a b t) := setT_ok ht h2.1 h2.2
          refine lv_aload_n hx hb dX1_setTemperature_64 rfl (lv_at hl 1 rfl) ?_
          refine zcallv (va_runV (As := []) (rest := []) ⟨hx, hb, hml, hown, hts⟩ (c_X1_scheduleAll l D cy A ad ya_c61 yi pr _ (setT (ya 0) a b t) hw hpa hg hGc htc) (cwV 0 hts gX1_setTemperature_X1_scheduleAll rfl rfl rfl (by decide +kernel) ⟨(Nat.le_of_ble_eq_true rfl), (Nat.le_of_ble_eq_true rfl)⟩) (zPV hE hS hw (ci := 1) (k0 := 0) rfl yE_0) rfl rfl hl.1 rfl (lv_room (Nat.le_of_ble_eq_true rfl)) dX1_setTemperature_65 ⟨(Nat.le_of_ble_eq_true rfl), (Nat.le_of_ble_eq_true rfl)⟩) hS (fun H1 locs hq hz1 hk1 hS => ?_)
          obtain ⟨pr_s65, hw, hsA_65⟩ := hq
          refine zvret hx hb hr hlocks hS (Nat.le_of_ble_eq_true rfl) (Nat.le_of_ble_eq_true rfl) ?_ dX1_setTemperature_68
          exact ⟨_, _, hw, hTc, hGc, hsA_65⟩
        · refine lv_iload hx hb dX1_setTemperature_38 (lv_at hl 0 rfl) ?_
          refine zi_sipush hx hb dX1_setTemperature_40 (by decide) ?_
          refine zc_ge (tgt := 60) hx hb dX1_setTemperature_43 (by decide) (by first | decide | (constructor <;> omega)) (by first | decide | (constructor <;> omega)) (fun c_43 => ?_) (fun c_43 => ?_)
          · exfalso; omega
          · refine lv_aload_n hx hb dX1_setTemperature_46 rfl (lv_at hl 1 rfl) ?_
            refine zget (C := RX1) (T := TX1) (N := 9) hx hb hts hinX1 hown hE hw 0 yE_0 rfl 0 (by decide) (hts (.fieldLink RX1 9 "FormworkYard" "temperatures" "[I") (by decide +kernel)) rfl dX1_setTemperature_47 ?_
            refine lv_iload hx hb dX1_setTemperature_50 (lv_at hl 0 rfl) ?_
            refine lv_iload_n hx hb dX1_setTemperature_52 rfl (lv_at hl 4 rfl) ?_
            refine ziast hx hb hE hS hw 1 yE_1 (h).toNat (by omega) (by omega) (by omega) dX1_setTemperature_53 (fun H locs hw hS => ?_)
            have hw := hw.cong (yU_a 0 (by decide) ((h).toNat) (t) rfl)
            obtain ⟨ya_1, hya_1⟩ : ∃ z : Nat → Nat → Int, z = va_up yb 0 (va_up (yb 0) ((h).toNat) (t)) := ⟨_, rfl⟩
            rw [← hya_1] at hw
            refine zi_iinc (lv' := [(4, .int (iI (h + 1))), (0, .ref (ad 0)), (1, .int (iI (a))), (2, .int (iI (b))), (3, .int (iI (t)))]) hx hb dX1_setTemperature_54 hl (k := 0) rfl (by decide) rfl (fun ls hl => ?_)
            refine lv_goto (tgt := 32) hx hb dX1_setTemperature_57 (by decide) ?_
            have hY := rU_s (k := 0) (p := h.toNat) rU_r hya_1
            exact ih (h + 1) ya_1 _ _ _ (by omega) (by omega) (fun r hr => (rU_row hY.1 hr).trans (hr9 r hr)) (by rw [hya_1, up_same, hT0, setT_s _ _ _ _ (by omega) (by omega), show h + 1 - 1 = h by omega]) hw hS (lv_sub hl [0, 1, 2, 3, 4] rfl)
    exact loop_32 1001 a ya _ _ _ (by omega) (by omega) (fun _ _ => rfl) (by rw [setT_a]) hw hS (lv_sub hl [0, 1, 2, 3, 4] rfl)

set_option maxHeartbeats 4000000 in
set_option maxRecDepth 100000 in
theorem c_X1_pours_ok (l : Launch) (D : va_G) (cy : Nat → ClassId) (A : Nat → Prop) (ad : Nat → Nat) (ya : Nat → Nat → Int) (yi : Nat → Int) (pr : Nat → Option PS) (H0 : Heap) (hw : zW D A ad (yE cy ad ya yi pr) H0) : Met l yX1_pours wsX1_pours ({ frames := 0, cells := 0, slots := 0, locals := 0 }) (zPc D cy A [.ref (ad 0)] H0) (zQi (fun z H1 => H1 = H0 ∧ z = cntY pr 10) A) 0 0 A := by
  refine Met.ofW (cc := cX1_pours) (maxL := 6) (ret := (some .int)) (by decide) rfl ?_
  intro pg en s mt args below meth c s₁ B hml hv
  obtain ⟨rfl, hH, hE⟩ := hv
  subst hH
  have hx := B.exec
  have hb := B.bytes
  have hr := B.returns
  have hts := atoms_spec (ws := wsX1_pours) B.pre
  have hown : s.vm.findClass RX1 = some mt.cls := findClass_of_methodNamed B.named
  have hlocks := B.notSynchronized
  have hinX1 : ∀ w ∈ u_ws RX1 TX1 9, w ∈ wsX1_pours := by decide +kernel
  have hS : va_S A s.heap s.heap [] := va_S.rf
  have hl := lv_entry ([.ref (ad 0)]) (n := 6) (Nat.le_of_ble_eq_true rfl)
  rw [lg_entry_eq]
  generalize (lg_sl ([.ref (ad 0)]) ++ List.replicate (6 - (lg_sl ([.ref (ad 0)])).length) Slot.unset).toArray = ls at hl ⊢
  have hl : lv_has ls 6 [(0, .ref (ad 0))] := hl
  refine zi_const hx hb dX1_pours_0 ?_
  refine lv_istore_n (lv' := [(1, .int (iI (0))), (0, .ref (ad 0))]) hx hb dX1_pours_1 rfl hl (by decide) rfl (fun ls hl => ?_)
  refine lv_aload_n hx hb dX1_pours_2 rfl (lv_at hl 1 rfl) ?_
  refine zget (C := RX1) (T := TX1) (N := 9) hx hb hts hinX1 hown hE hw 0 yE_0 rfl 4 (by decide) (hts (.fieldLink RX1 24 "FormworkYard" "pourList" "[LFormworkYard$Pour;") (by decide +kernel)) rfl dX1_pours_3 ?_
  refine lv_astore_n (lv' := [(2, .ref (ad 5)), (1, .int (iI (0))), (0, .ref (ad 0))]) hx hb dX1_pours_6 rfl hl (by decide) rfl (fun ls hl => ?_)
  refine lv_aload_n hx hb dX1_pours_7 rfl (lv_at hl 0 rfl) ?_
  refine zalen hx hb hE hw 5 2 yE_5 rfl (z := 10) rfl dX1_pours_8 ?_
  refine lv_istore_n (lv' := [(3, .int (iI (10))), (2, .ref (ad 5)), (1, .int (iI (0))), (0, .ref (ad 0))]) hx hb dX1_pours_9 rfl hl (by decide) rfl (fun ls hl => ?_)
  refine zi_const hx hb dX1_pours_10 ?_
  refine lv_istore (lv' := [(4, .int (iI (0))), (3, .int (iI (10))), (2, .ref (ad 5)), (1, .int (iI (0))), (0, .ref (ad 0))]) hx hb dX1_pours_11 hl (by decide) rfl (fun ls hl => ?_)
  have loop_13 : ∀ (n : Nat) (i : Nat) (w : Int) (locs : List Loc) (ls : Array Slot), 10 - i < n → (i ≤ 10) → (w = cntY pr i) → va_S A s.heap s.heap locs → lv_has ls 6 [(4, .int (iI ((i : Int)))), (3, .int (iI (10))), (2, .ref (ad 5)), (1, .int (iI (w))), (0, .ref (ad 0))] → W pg l en (headSpec wsX1_pours ({ frames := 0, cells := 0, slots := 0, locals := 0 })).room s mt ([.ref (ad 0)] : List Value).toArray below meth c s.heap locs 0 0 (MQ below (zQi (fun z H1 => H1 = s.heap ∧ z = cntY pr 10) A) ([.ref (ad 0)] : List Value).toArray s 0 0 A) (F0 mt 13 ls []) := by
    intro n
    induction n with
    | zero =>
      intro i w locs ls hm hi hk
      exfalso; omega
    | succ n ih =>
      intro i w locs ls hm hi hk hS hl
      have hcb := cntY_b (pr := pr) i
      refine lv_iload hx hb dX1_pours_13 (lv_at hl 0 rfl) ?_
      refine lv_iload_n hx hb dX1_pours_15 rfl (lv_at hl 1 rfl) ?_
      refine zc_ge (tgt := 39) hx hb dX1_pours_16 (by decide) (by first | decide | (constructor <;> omega)) (by first | decide | (constructor <;> omega)) (fun c_16 => ?_) (fun c_16 => ?_)
      · refine lv_iload_n hx hb dX1_pours_39 rfl (lv_at hl 3 rfl) ?_
        refine ziret hx hb hr hlocks hS (Nat.le_of_ble_eq_true rfl) (Nat.le_of_ble_eq_true rfl) (by first | decide | (constructor <;> omega)) ?_ dX1_pours_40
        exact ⟨rfl, by rw [hk, show i = 10 by omega]⟩
      · refine lv_aload_n hx hb dX1_pours_19 rfl (lv_at hl 2 rfl) ?_
        refine lv_iload hx hb dX1_pours_20 (lv_at hl 0 rfl) ?_
        refine zaald hx hb hE hw 5 yE_5 i rfl (by omega) (by omega) dX1_pours_22 ?_
        rcases hp_22 : pr i with _ | p_22
        · rw [yR_0 hp_22]
          refine lv_astoreN (lv' := [(5, .null), (4, .int (iI ((i : Int)))), (3, .int (iI (10))), (2, .ref (ad 5)), (1, .int (iI (w))), (0, .ref (ad 0))]) hx hb dX1_pours_23 hl (by decide) rfl (fun ls hl => ?_)
          refine lv_aloadN hx hb dX1_pours_25 (lv_at hl 0 rfl) ?_
          refine lv_ifnullN (tgt := 33) hx hb dX1_pours_27 (by decide) ?_
          refine zi_iinc (lv' := [(4, .int (iI ((i : Int) + 1))), (5, .null), (3, .int (iI (10))), (2, .ref (ad 5)), (1, .int (iI (w))), (0, .ref (ad 0))]) hx hb dX1_pours_33 hl (k := 1) rfl (by decide) rfl (fun ls hl => ?_)
          refine lv_goto (tgt := 13) hx hb dX1_pours_36 (by decide) ?_
          exact ih (i + 1) (w) _ _ (by omega) (by omega) (by rw [cntY_n hp_22]; omega) hS (lv_sub hl [0, 2, 3, 4, 5] rfl)
        · rw [yR_1 hp_22]
          refine lv_astore (lv' := [(5, .ref (ad (10 + 3 * i))), (4, .int (iI ((i : Int)))), (3, .int (iI (10))), (2, .ref (ad 5)), (1, .int (iI (w))), (0, .ref (ad 0))]) hx hb dX1_pours_23 hl (by decide) rfl (fun ls hl => ?_)
          refine lv_aload hx hb dX1_pours_25 (lv_at hl 0 rfl) ?_
          refine lv_ifnull hx hb dX1_pours_27 ?_
          refine zi_iinc (lv' := [(1, .int (iI (w + 1))), (5, .ref (ad (10 + 3 * i))), (4, .int (iI ((i : Int)))), (3, .int (iI (10))), (2, .ref (ad 5)), (0, .ref (ad 0))]) hx hb dX1_pours_30 hl (k := 4) rfl (by decide) rfl (fun ls hl => ?_)
          refine zi_iinc (lv' := [(4, .int (iI ((i : Int) + 1))), (1, .int (iI (w + 1))), (5, .ref (ad (10 + 3 * i))), (3, .int (iI (10))), (2, .ref (ad 5)), (0, .ref (ad 0))]) hx hb dX1_pours_33 hl (k := 2) rfl (by decide) rfl (fun ls hl => ?_)
          refine lv_goto (tgt := 13) hx hb dX1_pours_36 (by decide) ?_
          exact ih (i + 1) (w + 1) _ _ (by omega) (by omega) (by rw [cntY_s hp_22]; omega) hS (lv_sub hl [0, 3, 4, 1, 5] rfl)
  exact loop_13 11 0 0 _ _ (by omega) (by omega) rfl hS (lv_sub hl [0, 1, 2, 3, 4] rfl)

set_option maxHeartbeats 4000000 in
set_option maxRecDepth 100000 in
theorem c_X1_endOf_ok (l : Launch) (D : va_G) (cy : Nat → ClassId) (A : Nat → Prop) (ad : Nat → Nat) (ya : Nat → Nat → Int) (yi : Nat → Int) (pr : Nat → Option PS) (H0 : Heap) (i : Nat) (p0 : PS) (hw : zW D A ad (yE cy ad ya yi pr) H0) (hi : i < 10) (hp0 : pr i = some p0) (hz : zr (p0.1 7)) : Met l yX1_endOf wsX1_endOf ({ frames := 2, cells := 0, slots := 0, locals := 42 }) (zPc D cy A [.ref (ad 0), .int (iI ((i : Int)))] H0) (zQi (fun z H1 => H1 = H0 ∧ z = p0.1 7) A) 0 0 A := by
  refine Met.ofW (cc := cX1_endOf) (maxL := 3) (ret := (some .int)) (by decide) rfl ?_
  intro pg en s mt args below meth c s₁ B hml hv
  obtain ⟨rfl, hH, hE⟩ := hv
  subst hH
  have hx := B.exec
  have hb := B.bytes
  have hr := B.returns
  have hts := atoms_spec (ws := wsX1_endOf) B.pre
  have hown : s.vm.findClass RX1 = some mt.cls := findClass_of_methodNamed B.named
  have hlocks := B.notSynchronized
  have hinX0 : ∀ w ∈ u_ws RX0 TX0 13, w ∈ wsX1_endOf := by decide +kernel
  have hS : va_S A s.heap s.heap [] := va_S.rf
  have hl := lv_entry ([.ref (ad 0), .int (iI ((i : Int)))]) (n := 3) (Nat.le_of_ble_eq_true rfl)
  rw [lg_entry_eq]
  generalize (lg_sl ([.ref (ad 0), .int (iI ((i : Int)))]) ++ List.replicate (3 - (lg_sl ([.ref (ad 0), .int (iI ((i : Int)))])).length) Slot.unset).toArray = ls at hl ⊢
  have hl : lv_has ls 3 [(0, .ref (ad 0)), (1, .int (iI ((i : Int))))] := hl
  refine lv_aload_n hx hb dX1_endOf_0 rfl (lv_at hl 0 rfl) ?_
  refine lv_iload_n hx hb dX1_endOf_1 rfl (lv_at hl 1 rfl) ?_
  refine zcallq (va_runV (As := [.int (iI ((i : Int)))]) (rest := []) ⟨hx, hb, hml, hown, hts⟩ (c_X1_existing_ok l D cy A ad ya yi pr _ i p0 hw (by omega) hp0) (cwV 1 hts gX1_endOf_X1_existing rfl rfl rfl (by decide +kernel) ⟨(Nat.le_of_ble_eq_true rfl), (Nat.le_of_ble_eq_true rfl)⟩) (zPV hE hS hw (ci := 1) (k0 := 0) rfl yE_0) rfl rfl hl.1 rfl (lv_room (Nat.le_of_ble_eq_true rfl)) dX1_endOf_2 ⟨(Nat.le_of_ble_eq_true rfl), (Nat.le_of_ble_eq_true rfl)⟩) hS (fun z_2 H1 locs hq hz1 hk1 hS => ?_)
  obtain ⟨hqe, hv_2⟩ := hq
  replace hqe := hqe.symm
  subst hqe
  subst hv_2
  rw [zrf]
  refine lv_astore_n (lv' := [(2, .ref (ad (10 + 3 * i))), (0, .ref (ad 0)), (1, .int (iI ((i : Int))))]) hx hb dX1_endOf_5 rfl hl (by decide) rfl (fun ls hl => ?_)
  refine lv_aload_n hx hb dX1_endOf_6 rfl (lv_at hl 0 rfl) ?_
  refine zgetN (own := RX1) (C := RX0) (T := TX0) (N := 13) (index := 120) (host := RX1) hx hb hts hinX0 hown hE hw (10 + 3 * i) (yE_p (by omega) hp0) rfl 7 (by decide) (by decide +kernel) rfl dX1_endOf_7 ?_
  refine ziret hx hb hr hlocks hS (Nat.le_of_ble_eq_true rfl) (Nat.le_of_ble_eq_true rfl) (by first | decide | (constructor <;> omega)) ?_ dX1_endOf_10
  exact ⟨rfl, rfl⟩

set_option maxHeartbeats 4000000 in
set_option maxRecDepth 100000 in
theorem c_X1_struck_ok (l : Launch) (D : va_G) (cy : Nat → ClassId) (A : Nat → Prop) (ad : Nat → Nat) (ya : Nat → Nat → Int) (yi : Nat → Int) (pr : Nat → Option PS) (H0 : Heap) (i : Nat) (p0 : PS) (hw : zW D A ad (yE cy ad ya yi pr) H0) (hi : i < 10) (hp0 : pr i = some p0) (hz : zr (p0.1 8)) : Met l yX1_struck wsX1_struck ({ frames := 2, cells := 0, slots := 0, locals := 42 }) (zPc D cy A [.ref (ad 0), .int (iI ((i : Int)))] H0) (zQi (fun z H1 => H1 = H0 ∧ z = p0.1 8) A) 0 0 A := by
  refine Met.ofW (cc := cX1_struck) (maxL := 3) (ret := (some .int)) (by decide) rfl ?_
  intro pg en s mt args below meth c s₁ B hml hv
  obtain ⟨rfl, hH, hE⟩ := hv
  subst hH
  have hx := B.exec
  have hb := B.bytes
  have hr := B.returns
  have hts := atoms_spec (ws := wsX1_struck) B.pre
  have hown : s.vm.findClass RX1 = some mt.cls := findClass_of_methodNamed B.named
  have hlocks := B.notSynchronized
  have hinX0 : ∀ w ∈ u_ws RX0 TX0 13, w ∈ wsX1_struck := by decide +kernel
  have hS : va_S A s.heap s.heap [] := va_S.rf
  have hl := lv_entry ([.ref (ad 0), .int (iI ((i : Int)))]) (n := 3) (Nat.le_of_ble_eq_true rfl)
  rw [lg_entry_eq]
  generalize (lg_sl ([.ref (ad 0), .int (iI ((i : Int)))]) ++ List.replicate (3 - (lg_sl ([.ref (ad 0), .int (iI ((i : Int)))])).length) Slot.unset).toArray = ls at hl ⊢
  have hl : lv_has ls 3 [(0, .ref (ad 0)), (1, .int (iI ((i : Int))))] := hl
  refine lv_aload_n hx hb dX1_struck_0 rfl (lv_at hl 0 rfl) ?_
  refine lv_iload_n hx hb dX1_struck_1 rfl (lv_at hl 1 rfl) ?_
  refine zcallq (va_runV (As := [.int (iI ((i : Int)))]) (rest := []) ⟨hx, hb, hml, hown, hts⟩ (c_X1_existing_ok l D cy A ad ya yi pr _ i p0 hw (by omega) hp0) (cwV 1 hts gX1_struck_X1_existing rfl rfl rfl (by decide +kernel) ⟨(Nat.le_of_ble_eq_true rfl), (Nat.le_of_ble_eq_true rfl)⟩) (zPV hE hS hw (ci := 1) (k0 := 0) rfl yE_0) rfl rfl hl.1 rfl (lv_room (Nat.le_of_ble_eq_true rfl)) dX1_struck_2 ⟨(Nat.le_of_ble_eq_true rfl), (Nat.le_of_ble_eq_true rfl)⟩) hS (fun z_2 H1 locs hq hz1 hk1 hS => ?_)
  obtain ⟨hqe, hv_2⟩ := hq
  replace hqe := hqe.symm
  subst hqe
  subst hv_2
  rw [zrf]
  refine lv_astore_n (lv' := [(2, .ref (ad (10 + 3 * i))), (0, .ref (ad 0)), (1, .int (iI ((i : Int))))]) hx hb dX1_struck_5 rfl hl (by decide) rfl (fun ls hl => ?_)
  refine lv_aload_n hx hb dX1_struck_6 rfl (lv_at hl 0 rfl) ?_
  refine zgetN (own := RX1) (C := RX0) (T := TX0) (N := 13) (index := 132) (host := RX1) hx hb hts hinX0 hown hE hw (10 + 3 * i) (yE_p (by omega) hp0) rfl 8 (by decide) (by decide +kernel) rfl dX1_struck_7 ?_
  refine ziret hx hb hr hlocks hS (Nat.le_of_ble_eq_true rfl) (Nat.le_of_ble_eq_true rfl) (by first | decide | (constructor <;> omega)) ?_ dX1_struck_10
  exact ⟨rfl, rfl⟩

set_option maxHeartbeats 4000000 in
set_option maxRecDepth 100000 in
theorem c_X1_freeFrom_ok (l : Launch) (D : va_G) (cy : Nat → ClassId) (A : Nat → Prop) (ad : Nat → Nat) (ya : Nat → Nat → Int) (yi : Nat → Int) (pr : Nat → Option PS) (H0 : Heap) (i : Nat) (p0 : PS) (hw : zW D A ad (yE cy ad ya yi pr) H0) (hi : i < 10) (hp0 : pr i = some p0) (hz : 0 ≤ p0.1 10 ∧ p0.1 10 ≤ 1000) : Met l yX1_freeFrom wsX1_freeFrom ({ frames := 2, cells := 0, slots := 0, locals := 42 }) (zPc D cy A [.ref (ad 0), .int (iI ((i : Int)))] H0) (zQi (fun z H1 => H1 = H0 ∧ z = (if p0.1 10 < 1000 then p0.1 10 else -1)) A) 0 0 A := by
  refine Met.ofW (cc := cX1_freeFrom) (maxL := 3) (ret := (some .int)) (by decide) rfl ?_
  intro pg en s mt args below meth c s₁ B hml hv
  obtain ⟨rfl, hH, hE⟩ := hv
  subst hH
  have hx := B.exec
  have hb := B.bytes
  have hr := B.returns
  have hts := atoms_spec (ws := wsX1_freeFrom) B.pre
  have hown : s.vm.findClass RX1 = some mt.cls := findClass_of_methodNamed B.named
  have hlocks := B.notSynchronized
  have hinX0 : ∀ w ∈ u_ws RX0 TX0 13, w ∈ wsX1_freeFrom := by decide +kernel
  have hS : va_S A s.heap s.heap [] := va_S.rf
  have hl := lv_entry ([.ref (ad 0), .int (iI ((i : Int)))]) (n := 3) (Nat.le_of_ble_eq_true rfl)
  rw [lg_entry_eq]
  generalize (lg_sl ([.ref (ad 0), .int (iI ((i : Int)))]) ++ List.replicate (3 - (lg_sl ([.ref (ad 0), .int (iI ((i : Int)))])).length) Slot.unset).toArray = ls at hl ⊢
  have hl : lv_has ls 3 [(0, .ref (ad 0)), (1, .int (iI ((i : Int))))] := hl
  refine lv_aload_n hx hb dX1_freeFrom_0 rfl (lv_at hl 0 rfl) ?_
  refine lv_iload_n hx hb dX1_freeFrom_1 rfl (lv_at hl 1 rfl) ?_
  refine zcallq (va_runV (As := [.int (iI ((i : Int)))]) (rest := []) ⟨hx, hb, hml, hown, hts⟩ (c_X1_existing_ok l D cy A ad ya yi pr _ i p0 hw (by omega) hp0) (cwV 1 hts gX1_freeFrom_X1_existing rfl rfl rfl (by decide +kernel) ⟨(Nat.le_of_ble_eq_true rfl), (Nat.le_of_ble_eq_true rfl)⟩) (zPV hE hS hw (ci := 1) (k0 := 0) rfl yE_0) rfl rfl hl.1 rfl (lv_room (Nat.le_of_ble_eq_true rfl)) dX1_freeFrom_2 ⟨(Nat.le_of_ble_eq_true rfl), (Nat.le_of_ble_eq_true rfl)⟩) hS (fun z_2 H1 locs hq hz1 hk1 hS => ?_)
  obtain ⟨hqe, hv_2⟩ := hq
  replace hqe := hqe.symm
  subst hqe
  subst hv_2
  rw [zrf]
  refine lv_astore_n (lv' := [(2, .ref (ad (10 + 3 * i))), (0, .ref (ad 0)), (1, .int (iI ((i : Int))))]) hx hb dX1_freeFrom_5 rfl hl (by decide) rfl (fun ls hl => ?_)
  refine lv_aload_n hx hb dX1_freeFrom_6 rfl (lv_at hl 0 rfl) ?_
  refine zgetN (own := RX1) (C := RX0) (T := TX0) (N := 13) (index := 135) (host := RX1) hx hb hts hinX0 hown hE hw (10 + 3 * i) (yE_p (by omega) hp0) rfl 10 (by decide) (by decide +kernel) rfl dX1_freeFrom_7 ?_
  refine zi_sipush hx hb dX1_freeFrom_10 (by decide) ?_
  refine zc_ge (tgt := 23) hx hb dX1_freeFrom_13 (by decide) (by first | decide | (constructor <;> omega)) (by first | decide | (constructor <;> omega)) (fun c_13 => ?_) (fun c_13 => ?_)
  · refine zi_const hx hb dX1_freeFrom_23 ?_
    refine ziret hx hb hr hlocks hS (Nat.le_of_ble_eq_true rfl) (Nat.le_of_ble_eq_true rfl) (by first | decide | (constructor <;> omega)) ?_ dX1_freeFrom_24
    exact ⟨rfl, by split <;> omega⟩
  · refine lv_aload_n hx hb dX1_freeFrom_16 rfl (lv_at hl 0 rfl) ?_
    refine zgetN (own := RX1) (C := RX0) (T := TX0) (N := 13) (index := 135) (host := RX1) hx hb hts hinX0 hown hE hw (10 + 3 * i) (yE_p (by omega) hp0) rfl 10 (by decide) (by decide +kernel) rfl dX1_freeFrom_17 ?_
    refine lv_goto (tgt := 24) hx hb dX1_freeFrom_20 (by decide) ?_
    refine ziret hx hb hr hlocks hS (Nat.le_of_ble_eq_true rfl) (Nat.le_of_ble_eq_true rfl) (by first | decide | (constructor <;> omega)) ?_ dX1_freeFrom_24
    exact ⟨rfl, by split <;> omega⟩

set_option maxHeartbeats 4000000 in
set_option maxRecDepth 100000 in
theorem c_X1_need_ok (l : Launch) (D : va_G) (cy : Nat → ClassId) (A : Nat → Prop) (ad : Nat → Nat) (ya : Nat → Nat → Int) (yi : Nat → Int) (pr : Nat → Option PS) (H0 : Heap) (h : Int) (hw : zW D A ad (yE cy ad ya yi pr) H0) (h1 : 0 ≤ h ∧ h < 1000) (ha : pA pr) : Met l yX1_need wsX1_need ({ frames := 2, cells := 0, slots := 0, locals := 47 }) (zPc D cy A [.ref (ad 0), .int (iI (h))] H0) (zQi (fun z H1 => H1 = H0 ∧ z = nY pr h 10) A) 0 0 A := by
  refine Met.ofW (cc := cX1_need) (maxL := 2) (ret := (some .int)) (by decide) rfl ?_
  intro pg en s mt args below meth c s₁ B hml hv
  obtain ⟨rfl, hH, hE⟩ := hv
  subst hH
  have hx := B.exec
  have hb := B.bytes
  have hr := B.returns
  have hts := atoms_spec (ws := wsX1_need) B.pre
  have hown : s.vm.findClass RX1 = some mt.cls := findClass_of_methodNamed B.named
  have hlocks := B.notSynchronized
  have hS : va_S A s.heap s.heap [] := va_S.rf
  have hl := lv_entry ([.ref (ad 0), .int (iI (h))]) (n := 2) (Nat.le_of_ble_eq_true rfl)
  rw [lg_entry_eq]
  generalize (lg_sl ([.ref (ad 0), .int (iI (h))]) ++ List.replicate (2 - (lg_sl ([.ref (ad 0), .int (iI (h))])).length) Slot.unset).toArray = ls at hl ⊢
  have hl : lv_has ls 2 [(0, .ref (ad 0)), (1, .int (iI (h)))] := hl
  refine lv_iload_n hx hb dX1_need_0 rfl (lv_at hl 1 rfl) ?_
  refine zcallv (va_runS (As := [.int (iI (h))]) (rest := []) ⟨hx, hb, hml, hown, hts⟩ (c_X1_requireHour_ok l D cy A ad _ (h) (by omega)) (va_cwS 1 hts gX1_need_X1_requireHour rfl rfl rfl (by decide +kernel) ⟨(Nat.le_of_ble_eq_true rfl), (Nat.le_of_ble_eq_true rfl)⟩) (zPS hE hS) rfl rfl hl.1 rfl (lv_room (Nat.le_of_ble_eq_true rfl)) dX1_need_1 ⟨(Nat.le_of_ble_eq_true rfl), (Nat.le_of_ble_eq_true rfl)⟩) hS (fun H1 locs hq hz1 hk1 hS => ?_)
  replace hq := hq.symm
  subst hq
  refine lv_aload_n hx hb dX1_need_4 rfl (lv_at hl 0 rfl) ?_
  refine lv_iload_n hx hb dX1_need_5 rfl (lv_at hl 1 rfl) ?_
  refine zcalli (va_runV (As := [.int (iI (h))]) (rest := []) ⟨hx, hb, hml, hown, hts⟩ (c_X1_needIn l D cy A ad ya yi pr _ (h) hw (by first | decide | (constructor <;> omega)) ha) (cwV 1 hts gX1_need_X1_needIn rfl rfl rfl (by decide +kernel) ⟨(Nat.le_of_ble_eq_true rfl), (Nat.le_of_ble_eq_true rfl)⟩) (zPV hE hS hw (ci := 1) (k0 := 0) rfl yE_0) rfl rfl hl.1 rfl (lv_room (Nat.le_of_ble_eq_true rfl)) dX1_need_6 ⟨(Nat.le_of_ble_eq_true rfl), (Nat.le_of_ble_eq_true rfl)⟩) hS (fun z_6 H1 locs hz_6 hq hz1 hk1 hS => ?_)
  obtain ⟨hqe, hv_6⟩ := hq
  replace hqe := hqe.symm
  subst hqe
  refine ziret hx hb hr hlocks hS (Nat.le_of_ble_eq_true rfl) (Nat.le_of_ble_eq_true rfl) (by first | decide | (constructor <;> omega)) ?_ dX1_need_9
  exact ⟨rfl, hv_6⟩

set_option maxHeartbeats 4000000 in
set_option maxRecDepth 100000 in
theorem c_X1_peak_ok (l : Launch) (D : va_G) (cy : Nat → ClassId) (A : Nat → Prop) (ad : Nat → Nat) (ya : Nat → Nat → Int) (yi : Nat → Int) (pr : Nat → Option PS) (H0 : Heap) (hw : zW D A ad (yE cy ad ya yi pr) H0) (ha : pA pr) : Met l yX1_peak wsX1_peak ({ frames := 3, cells := 0, slots := 0, locals := 68 }) (zPc D cy A [.ref (ad 0)] H0) (zQi (fun z H1 => ∃ yb, zW D A ad (yE cy ad yb yi pr) H1 ∧ (∀ r, r ≠ 2 → yb r = ya r) ∧ z = mx (fun j : Nat => nY pr j 10) 1000) A) 0 0 A := by
  refine Met.ofW (cc := cX1_peak) (maxL := 6) (ret := (some .int)) (by decide) rfl ?_
  intro pg en s mt args below meth c s₁ B hml hv
  obtain ⟨rfl, hH, hE⟩ := hv
  subst hH
  have hx := B.exec
  have hb := B.bytes
  have hr := B.returns
  have hts := atoms_spec (ws := wsX1_peak) B.pre
  have hown : s.vm.findClass RX1 = some mt.cls := findClass_of_methodNamed B.named
  have hlocks := B.notSynchronized
  have hinX1 : ∀ w ∈ u_ws RX1 TX1 9, w ∈ wsX1_peak := by decide +kernel
  have hS : va_S A s.heap s.heap [] := va_S.rf
  have hl := lv_entry ([.ref (ad 0)]) (n := 6) (Nat.le_of_ble_eq_true rfl)
  rw [lg_entry_eq]
  generalize (lg_sl ([.ref (ad 0)]) ++ List.replicate (6 - (lg_sl ([.ref (ad 0)])).length) Slot.unset).toArray = ls at hl ⊢
  have hl : lv_has ls 6 [(0, .ref (ad 0))] := hl
  refine lv_aload_n hx hb dX1_peak_0 rfl (lv_at hl 0 rfl) ?_
  refine zcallv (va_runV (As := []) (rest := []) ⟨hx, hb, hml, hown, hts⟩ (c_X1_sumNeeds l D cy A ad ya yi pr _ hw ha) (cwV 0 hts gX1_peak_X1_sumNeeds rfl rfl rfl (by decide +kernel) ⟨(Nat.le_of_ble_eq_true rfl), (Nat.le_of_ble_eq_true rfl)⟩) (zPV hE hS hw (ci := 1) (k0 := 0) rfl yE_0) rfl rfl hl.1 rfl (lv_room (Nat.le_of_ble_eq_true rfl)) dX1_peak_1 ⟨(Nat.le_of_ble_eq_true rfl), (Nat.le_of_ble_eq_true rfl)⟩) hS (fun H1 locs hq hz1 hk1 hS => ?_)
  obtain ⟨ya_c1, hw, hnr_1, hnn_1⟩ := hq
  refine zi_const hx hb dX1_peak_4 ?_
  refine lv_istore_n (lv' := [(1, .int (iI (0))), (0, .ref (ad 0))]) hx hb dX1_peak_5 rfl hl (by decide) rfl (fun ls hl => ?_)
  refine lv_aload_n hx hb dX1_peak_6 rfl (lv_at hl 1 rfl) ?_
  refine zget (C := RX1) (T := TX1) (N := 9) hx hb hts hinX1 hown hE hw 0 yE_0 rfl 2 (by decide) (hts (.fieldLink RX1 16 "FormworkYard" "needs" "[I") (by decide +kernel)) rfl dX1_peak_7 ?_
  refine lv_astore_n (lv' := [(2, .ref (ad 3)), (1, .int (iI (0))), (0, .ref (ad 0))]) hx hb dX1_peak_10 rfl hl (by decide) rfl (fun ls hl => ?_)
  refine lv_aload_n hx hb dX1_peak_11 rfl (lv_at hl 0 rfl) ?_
  refine zalen hx hb hE hw 3 0 yE_3 rfl (z := 1000) rfl dX1_peak_12 ?_
  refine lv_istore_n (lv' := [(3, .int (iI (1000))), (2, .ref (ad 3)), (1, .int (iI (0))), (0, .ref (ad 0))]) hx hb dX1_peak_13 rfl hl (by decide) rfl (fun ls hl => ?_)
  refine zi_const hx hb dX1_peak_14 ?_
  refine lv_istore (lv' := [(4, .int (iI (0))), (3, .int (iI (1000))), (2, .ref (ad 3)), (1, .int (iI (0))), (0, .ref (ad 0))]) hx hb dX1_peak_15 hl (by decide) rfl (fun ls hl => ?_)
  have loop_17 : ∀ (n : Nat) (i : Nat) (w : Int) (H : Heap) (locs : List Loc) (ls : Array Slot), 1000 - i < n → (i ≤ 1000) → (w = mx (fun j : Nat => nY pr j 10) i) → zW D A ad (yE cy ad ya_c1 yi pr) H → va_S A s.heap H locs → lv_has ls 6 [(4, .int (iI ((i : Int)))), (3, .int (iI (1000))), (2, .ref (ad 3)), (1, .int (iI (w))), (0, .ref (ad 0))] → W pg l en (headSpec wsX1_peak ({ frames := 3, cells := 0, slots := 0, locals := 68 })).room s mt ([.ref (ad 0)] : List Value).toArray below meth c H locs 0 0 (MQ below (zQi (fun z H1 => ∃ yb, zW D A ad (yE cy ad yb yi pr) H1 ∧ (∀ r, r ≠ 2 → yb r = ya r) ∧ z = mx (fun j : Nat => nY pr j 10) 1000) A) ([.ref (ad 0)] : List Value).toArray s 0 0 A) (F0 mt 17 ls []) := by
    intro n
    induction n with
    | zero =>
      intro i w H locs ls hm hi hk
      exfalso; omega
    | succ n ih =>
      intro i w H locs ls hm hi hk hw hS hl
      have hmb := mx_b (f := fun j : Nat => nY pr j 10) (b := 300) (by omega) (n := i) (fun k hk2 => (nY_b ha (Nat.le_refl 10)).2)
      refine lv_iload hx hb dX1_peak_17 (lv_at hl 0 rfl) ?_
      refine lv_iload_n hx hb dX1_peak_19 rfl (lv_at hl 1 rfl) ?_
      refine zc_ge (tgt := 42) hx hb dX1_peak_20 (by decide) (by first | decide | (constructor <;> omega)) (by first | decide | (constructor <;> omega)) (fun c_20 => ?_) (fun c_20 => ?_)
      · refine lv_iload_n hx hb dX1_peak_42 rfl (lv_at hl 3 rfl) ?_
        refine ziret hx hb hr hlocks hS (Nat.le_of_ble_eq_true rfl) (Nat.le_of_ble_eq_true rfl) (by first | decide | (constructor <;> omega)) ?_ dX1_peak_43
        exact ⟨_, hw, hnr_1, by rw [hk, show i = 1000 by omega]⟩
      · refine lv_aload_n hx hb dX1_peak_23 rfl (lv_at hl 2 rfl) ?_
        refine lv_iload hx hb dX1_peak_24 (lv_at hl 0 rfl) ?_
        refine ziald hx hb hE hw 3 yE_3 i rfl (by omega) (by omega) dX1_peak_26 ?_
        refine zi_top (fun v_26 hv_26 => ?_)
        rw [hnn_1 i (by omega)] at hv_26
        have hnb := nY_b (h := i) ha (Nat.le_refl 10)
        refine lv_istore (lv' := [(5, .int (iI (v_26))), (4, .int (iI ((i : Int)))), (3, .int (iI (1000))), (2, .ref (ad 3)), (1, .int (iI (w))), (0, .ref (ad 0))]) hx hb dX1_peak_27 hl (by decide) rfl (fun ls hl => ?_)
        refine lv_iload_n hx hb dX1_peak_29 rfl (lv_at hl 4 rfl) ?_
        refine lv_iload hx hb dX1_peak_30 (lv_at hl 0 rfl) ?_
        refine va_mmax hx hb (hml.trans hl.1.symm) hown (hts (.methodLink RX1 144 Lib.Math.max.name) (by decide +kernel)) (hts (.static Lib.Math.max.name) (by decide +kernel)) (hts (.initialized "java/lang/Math") (by decide +kernel)) (hts (.code Lib.Math.max.name Lib.Math.max.code 2 (some .int)) (by decide +kernel)) (Nat.le_of_ble_eq_true rfl) (Nat.le_of_ble_eq_true rfl) (Nat.le_of_ble_eq_true rfl) (Nat.le_of_ble_eq_true rfl) dX1_peak_32 ?_
        rw [iI_max (a := w) (b := v_26) (by first | decide | (constructor <;> omega)) (by first | decide | (constructor <;> omega))]
        refine zi_top (fun x_32 hx_32 => ?_)
        refine lv_istore_n (lv' := [(1, .int (iI (x_32))), (5, .int (iI (v_26))), (4, .int (iI ((i : Int)))), (3, .int (iI (1000))), (2, .ref (ad 3)), (0, .ref (ad 0))]) hx hb dX1_peak_35 rfl hl (by decide) rfl (fun ls hl => ?_)
        refine zi_iinc (lv' := [(4, .int (iI ((i : Int) + 1))), (1, .int (iI (x_32))), (5, .int (iI (v_26))), (3, .int (iI (1000))), (2, .ref (ad 3)), (0, .ref (ad 0))]) hx hb dX1_peak_36 hl (k := 2) rfl (by decide) rfl (fun ls hl => ?_)
        refine lv_goto (tgt := 17) hx hb dX1_peak_39 (by decide) ?_
        exact ih (i + 1) x_32 _ _ _ (by omega) (by omega) (by simp only [mx]; omega) hw hS (lv_sub hl [0, 3, 4, 1, 5] rfl)
  exact loop_17 1001 0 0 _ _ _ (by omega) (by omega) rfl hw hS (lv_sub hl [0, 1, 2, 3, 4] rfl)

set_option maxHeartbeats 4000000 in
set_option maxRecDepth 100000 in
theorem c_X1_peakByOverlaps_ok (l : Launch) (D : va_G) (cy : Nat → ClassId) (A : Nat → Prop) (ad : Nat → Nat) (ya : Nat → Nat → Int) (yi : Nat → Int) (pr : Nat → Option PS) (H0 : Heap) (hw : zW D A ad (yE cy ad ya yi pr) H0) (ha : pA pr) : Met l yX1_peakByOverlaps wsX1_peakByOverlaps ({ frames := 2, cells := 0, slots := 0, locals := 47 }) (zPc D cy A [.ref (ad 0)] H0) (zQi (fun z H1 => H1 = H0 ∧ z = ovY pr 10) A) 0 0 A := by
  refine Met.ofW (cc := cX1_peakByOverlaps) (maxL := 6) (ret := (some .int)) (by decide) rfl ?_
  intro pg en s mt args below meth c s₁ B hml hv
  obtain ⟨rfl, hH, hE⟩ := hv
  subst hH
  have hx := B.exec
  have hb := B.bytes
  have hr := B.returns
  have hts := atoms_spec (ws := wsX1_peakByOverlaps) B.pre
  have hown : s.vm.findClass RX1 = some mt.cls := findClass_of_methodNamed B.named
  have hlocks := B.notSynchronized
  have hinX0 : ∀ w ∈ u_ws RX0 TX0 13, w ∈ wsX1_peakByOverlaps := by decide +kernel
  have hinX1 : ∀ w ∈ u_ws RX1 TX1 9, w ∈ wsX1_peakByOverlaps := by decide +kernel
  have hS : va_S A s.heap s.heap [] := va_S.rf
  have hl := lv_entry ([.ref (ad 0)]) (n := 6) (Nat.le_of_ble_eq_true rfl)
  rw [lg_entry_eq]
  generalize (lg_sl ([.ref (ad 0)]) ++ List.replicate (6 - (lg_sl ([.ref (ad 0)])).length) Slot.unset).toArray = ls at hl ⊢
  have hl : lv_has ls 6 [(0, .ref (ad 0))] := hl
  refine zi_const hx hb dX1_peakByOverlaps_0 ?_
  refine lv_istore_n (lv' := [(1, .int (iI (0))), (0, .ref (ad 0))]) hx hb dX1_peakByOverlaps_1 rfl hl (by decide) rfl (fun ls hl => ?_)
  refine lv_aload_n hx hb dX1_peakByOverlaps_2 rfl (lv_at hl 1 rfl) ?_
  refine zget (C := RX1) (T := TX1) (N := 9) hx hb hts hinX1 hown hE hw 0 yE_0 rfl 4 (by decide) (hts (.fieldLink RX1 24 "FormworkYard" "pourList" "[LFormworkYard$Pour;") (by decide +kernel)) rfl dX1_peakByOverlaps_3 ?_
  refine lv_astore_n (lv' := [(2, .ref (ad 5)), (1, .int (iI (0))), (0, .ref (ad 0))]) hx hb dX1_peakByOverlaps_6 rfl hl (by decide) rfl (fun ls hl => ?_)
  refine lv_aload_n hx hb dX1_peakByOverlaps_7 rfl (lv_at hl 0 rfl) ?_
  refine zalen hx hb hE hw 5 2 yE_5 rfl (z := 10) rfl dX1_peakByOverlaps_8 ?_
  refine lv_istore_n (lv' := [(3, .int (iI (10))), (2, .ref (ad 5)), (1, .int (iI (0))), (0, .ref (ad 0))]) hx hb dX1_peakByOverlaps_9 rfl hl (by decide) rfl (fun ls hl => ?_)
  refine zi_const hx hb dX1_peakByOverlaps_10 ?_
  refine lv_istore (lv' := [(4, .int (iI (0))), (3, .int (iI (10))), (2, .ref (ad 5)), (1, .int (iI (0))), (0, .ref (ad 0))]) hx hb dX1_peakByOverlaps_11 hl (by decide) rfl (fun ls hl => ?_)
  have loop_13 : ∀ (n : Nat) (i : Nat) (w : Int) (locs : List Loc) (ls : Array Slot), 10 - i < n → (i ≤ 10) → (w = ovY pr i) → va_S A s.heap s.heap locs → lv_has ls 6 [(4, .int (iI ((i : Int)))), (3, .int (iI (10))), (2, .ref (ad 5)), (1, .int (iI (w))), (0, .ref (ad 0))] → W pg l en (headSpec wsX1_peakByOverlaps ({ frames := 2, cells := 0, slots := 0, locals := 47 })).room s mt ([.ref (ad 0)] : List Value).toArray below meth c s.heap locs 0 0 (MQ below (zQi (fun z H1 => H1 = s.heap ∧ z = ovY pr 10) A) ([.ref (ad 0)] : List Value).toArray s 0 0 A) (F0 mt 13 ls []) := by
    intro n
    induction n with
    | zero =>
      intro i w locs ls hm hi hk
      exfalso; omega
    | succ n ih =>
      intro i w locs ls hm hi hk hS hl
      have hob := ovY_b ha i
      refine lv_iload hx hb dX1_peakByOverlaps_13 (lv_at hl 0 rfl) ?_
      refine lv_iload_n hx hb dX1_peakByOverlaps_15 rfl (lv_at hl 1 rfl) ?_
      refine zc_ge (tgt := 50) hx hb dX1_peakByOverlaps_16 (by decide) (by first | decide | (constructor <;> omega)) (by first | decide | (constructor <;> omega)) (fun c_16 => ?_) (fun c_16 => ?_)
      · refine lv_iload_n hx hb dX1_peakByOverlaps_50 rfl (lv_at hl 3 rfl) ?_
        refine ziret hx hb hr hlocks hS (Nat.le_of_ble_eq_true rfl) (Nat.le_of_ble_eq_true rfl) (by first | decide | (constructor <;> omega)) ?_ dX1_peakByOverlaps_51
        exact ⟨rfl, by rw [hk, show i = 10 by omega]⟩
      · refine lv_aload_n hx hb dX1_peakByOverlaps_19 rfl (lv_at hl 2 rfl) ?_
        refine lv_iload hx hb dX1_peakByOverlaps_20 (lv_at hl 0 rfl) ?_
        refine zaald hx hb hE hw 5 yE_5 i rfl (by omega) (by omega) dX1_peakByOverlaps_22 ?_
        rcases hp_22 : pr i with _ | p_22
        · rw [yR_0 hp_22]
          refine lv_astoreN (lv' := [(5, .null), (4, .int (iI ((i : Int)))), (3, .int (iI (10))), (2, .ref (ad 5)), (1, .int (iI (w))), (0, .ref (ad 0))]) hx hb dX1_peakByOverlaps_23 hl (by decide) rfl (fun ls hl => ?_)
          refine lv_aloadN hx hb dX1_peakByOverlaps_25 (lv_at hl 0 rfl) ?_
          refine lv_ifnullN (tgt := 44) hx hb dX1_peakByOverlaps_27 (by decide) ?_
          refine zi_iinc (lv' := [(4, .int (iI ((i : Int) + 1))), (5, .null), (3, .int (iI (10))), (2, .ref (ad 5)), (1, .int (iI (w))), (0, .ref (ad 0))]) hx hb dX1_peakByOverlaps_44 hl (k := 1) rfl (by decide) rfl (fun ls hl => ?_)
          refine lv_goto (tgt := 13) hx hb dX1_peakByOverlaps_47 (by decide) ?_
          exact ih (i + 1) w _ _ (by omega) (by omega) (by rw [ovY_n hp_22]; omega) hS (lv_sub hl [0, 2, 3, 4, 5] rfl)
        · rw [yR_1 hp_22]
          obtain ⟨⟨q1, q2, q3, q4, q5, q6⟩, q7, q8⟩ := ha i p_22 (by omega) hp_22
          refine lv_astore (lv' := [(5, .ref (ad (10 + 3 * i))), (4, .int (iI ((i : Int)))), (3, .int (iI (10))), (2, .ref (ad 5)), (1, .int (iI (w))), (0, .ref (ad 0))]) hx hb dX1_peakByOverlaps_23 hl (by decide) rfl (fun ls hl => ?_)
          refine lv_aload hx hb dX1_peakByOverlaps_25 (lv_at hl 0 rfl) ?_
          refine lv_ifnull hx hb dX1_peakByOverlaps_27 ?_
          refine lv_iload_n hx hb dX1_peakByOverlaps_30 rfl (lv_at hl 4 rfl) ?_
          refine lv_aload_n hx hb dX1_peakByOverlaps_31 rfl (lv_at hl 5 rfl) ?_
          refine lv_aload hx hb dX1_peakByOverlaps_32 (lv_at hl 0 rfl) ?_
          refine zgetN (own := RX1) (C := RX0) (T := TX0) (N := 13) (index := 147) (host := RX1) hx hb hts hinX0 hown hE hw (10 + 3 * i) (yE_p (by omega) hp_22) rfl 9 (by decide) (by decide +kernel) rfl dX1_peakByOverlaps_34 ?_
          refine zcalli (va_runV (As := [.int (iI (p_22.1 9))]) (rest := [.int (iI (w))]) ⟨hx, hb, hml, hown, hts⟩ (c_X1_needIn l D cy A ad ya yi pr _ (p_22.1 9) hw (by first | decide | (constructor <;> omega)) ha) (cwV 1 hts gX1_peakByOverlaps_X1_needIn rfl rfl rfl (by decide +kernel) ⟨(Nat.le_of_ble_eq_true rfl), (Nat.le_of_ble_eq_true rfl)⟩) (zPV hE hS hw (ci := 1) (k0 := 0) rfl yE_0) rfl rfl hl.1 rfl (lv_room (Nat.le_of_ble_eq_true rfl)) dX1_peakByOverlaps_37 ⟨(Nat.le_of_ble_eq_true rfl), (Nat.le_of_ble_eq_true rfl)⟩) hS (fun z_37 H1 locs hz_37 hq hz1 hk1 hS => ?_)
          obtain ⟨hqe, hv_37⟩ := hq
          replace hqe := hqe.symm
          subst hqe
          have hnb := nY_b (h := p_22.1 9) ha (Nat.le_refl 10)
          refine va_mmax hx hb (hml.trans hl.1.symm) hown (hts (.methodLink RX1 144 Lib.Math.max.name) (by decide +kernel)) (hts (.static Lib.Math.max.name) (by decide +kernel)) (hts (.initialized "java/lang/Math") (by decide +kernel)) (hts (.code Lib.Math.max.name Lib.Math.max.code 2 (some .int)) (by decide +kernel)) (Nat.le_of_ble_eq_true rfl) (Nat.le_of_ble_eq_true rfl) (Nat.le_of_ble_eq_true rfl) (Nat.le_of_ble_eq_true rfl) dX1_peakByOverlaps_40 ?_
          rw [iI_max (a := w) (b := z_37) (by first | decide | (constructor <;> omega)) (by first | decide | (constructor <;> omega))]
          refine zi_top (fun x_40 hx_40 => ?_)
          refine lv_istore_n (lv' := [(1, .int (iI (x_40))), (5, .ref (ad (10 + 3 * i))), (4, .int (iI ((i : Int)))), (3, .int (iI (10))), (2, .ref (ad 5)), (0, .ref (ad 0))]) hx hb dX1_peakByOverlaps_43 rfl hl (by decide) rfl (fun ls hl => ?_)
          refine zi_iinc (lv' := [(4, .int (iI ((i : Int) + 1))), (1, .int (iI (x_40))), (5, .ref (ad (10 + 3 * i))), (3, .int (iI (10))), (2, .ref (ad 5)), (0, .ref (ad 0))]) hx hb dX1_peakByOverlaps_44 hl (k := 2) rfl (by decide) rfl (fun ls hl => ?_)
          refine lv_goto (tgt := 13) hx hb dX1_peakByOverlaps_47 (by decide) ?_
          exact ih (i + 1) x_40 _ _ (by omega) (by omega) (by rw [ovY_s hp_22]; omega) hS (lv_sub hl [0, 3, 4, 1, 5] rfl)
  exact loop_13 11 0 0 _ _ (by omega) (by omega) rfl hS (lv_sub hl [0, 1, 2, 3, 4] rfl)

set_option maxHeartbeats 4000000 in
set_option maxRecDepth 100000 in
theorem c_X1_firstShort_ok (l : Launch) (D : va_G) (cy : Nat → ClassId) (A : Nat → Prop) (ad : Nat → Nat) (ya : Nat → Nat → Int) (yi : Nat → Int) (pr : Nat → Option PS) (H0 : Heap) (hw : zW D A ad (yE cy ad ya yi pr) H0) (ha : pA pr) (hg : yB yi) : Met l yX1_firstShort wsX1_firstShort ({ frames := 3, cells := 0, slots := 0, locals := 68 }) (zPc D cy A [.ref (ad 0)] H0) (zQi (fun z H1 => ∃ yb, zW D A ad (yE cy ad yb yi pr) H1 ∧ (∀ r, r ≠ 2 → yb r = ya r) ∧ z = (if fnd (fun h => yi 5 < nY pr h 10) 0 1000 < 1000 then fnd (fun h => yi 5 < nY pr h 10) 0 1000 else -1)) A) 0 0 A := by
  refine Met.ofW (cc := cX1_firstShort) (maxL := 2) (ret := (some .int)) (by decide) rfl ?_
  intro pg en s mt args below meth c s₁ B hml hv
  obtain ⟨rfl, hH, hE⟩ := hv
  subst hH
  have hx := B.exec
  have hb := B.bytes
  have hr := B.returns
  have hts := atoms_spec (ws := wsX1_firstShort) B.pre
  have hown : s.vm.findClass RX1 = some mt.cls := findClass_of_methodNamed B.named
  have hlocks := B.notSynchronized
  have hinX1 : ∀ w ∈ u_ws RX1 TX1 9, w ∈ wsX1_firstShort := by decide +kernel
  have hS : va_S A s.heap s.heap [] := va_S.rf
  have hl := lv_entry ([.ref (ad 0)]) (n := 2) (Nat.le_of_ble_eq_true rfl)
  rw [lg_entry_eq]
  generalize (lg_sl ([.ref (ad 0)]) ++ List.replicate (2 - (lg_sl ([.ref (ad 0)])).length) Slot.unset).toArray = ls at hl ⊢
  have hl : lv_has ls 2 [(0, .ref (ad 0))] := hl
  obtain ⟨g1, g2, g3, g4⟩ := id hg
  refine lv_aload_n hx hb dX1_firstShort_0 rfl (lv_at hl 0 rfl) ?_
  refine zcallv (va_runV (As := []) (rest := []) ⟨hx, hb, hml, hown, hts⟩ (c_X1_sumNeeds l D cy A ad ya yi pr _ hw ha) (cwV 0 hts gX1_firstShort_X1_sumNeeds rfl rfl rfl (by decide +kernel) ⟨(Nat.le_of_ble_eq_true rfl), (Nat.le_of_ble_eq_true rfl)⟩) (zPV hE hS hw (ci := 1) (k0 := 0) rfl yE_0) rfl rfl hl.1 rfl (lv_room (Nat.le_of_ble_eq_true rfl)) dX1_firstShort_1 ⟨(Nat.le_of_ble_eq_true rfl), (Nat.le_of_ble_eq_true rfl)⟩) hS (fun H1 locs hq hz1 hk1 hS => ?_)
  obtain ⟨ya_c1, hw, hnr_1, hnn_1⟩ := hq
  refine zi_const hx hb dX1_firstShort_4 ?_
  refine lv_istore_n (lv' := [(1, .int (iI (0))), (0, .ref (ad 0))]) hx hb dX1_firstShort_5 rfl hl (by decide) rfl (fun ls hl => ?_)
  have loop_6 : ∀ (n : Nat) (i : Nat) (H : Heap) (locs : List Loc) (ls : Array Slot), 1000 - i < n → (i ≤ 1000) → (fnd (fun h => yi 5 < nY pr h 10) 0 1000 = fnd (fun h => yi 5 < nY pr h 10) i (1000 - (i : Int)).toNat) → zW D A ad (yE cy ad ya_c1 yi pr) H → va_S A s.heap H locs → lv_has ls 2 [(1, .int (iI ((i : Int)))), (0, .ref (ad 0))] → W pg l en (headSpec wsX1_firstShort ({ frames := 3, cells := 0, slots := 0, locals := 68 })).room s mt ([.ref (ad 0)] : List Value).toArray below meth c H locs 0 0 (MQ below (zQi (fun z H1 => ∃ yb, zW D A ad (yE cy ad yb yi pr) H1 ∧ (∀ r, r ≠ 2 → yb r = ya r) ∧ z = (if fnd (fun h => yi 5 < nY pr h 10) 0 1000 < 1000 then fnd (fun h => yi 5 < nY pr h 10) 0 1000 else -1)) A) ([.ref (ad 0)] : List Value).toArray s 0 0 A) (F0 mt 6 ls []) := by
    intro n
    induction n with
    | zero =>
      intro i H locs ls hm hi hk
      exfalso; omega
    | succ n ih =>
      intro i H locs ls hm hi hk hw hS hl
      refine lv_iload_n hx hb dX1_firstShort_6 rfl (lv_at hl 0 rfl) ?_
      refine zi_sipush hx hb dX1_firstShort_7 (by decide) ?_
      refine zc_ge (tgt := 34) hx hb dX1_firstShort_10 (by decide) (by first | decide | (constructor <;> omega)) (by first | decide | (constructor <;> omega)) (fun c_10 => ?_) (fun c_10 => ?_)
      · refine zi_const hx hb dX1_firstShort_34 ?_
        refine ziret hx hb hr hlocks hS (Nat.le_of_ble_eq_true rfl) (Nat.le_of_ble_eq_true rfl) (by first | decide | (constructor <;> omega)) ?_ dX1_firstShort_35
        have hst : fnd (fun h => yi 5 < nY pr h 10) i (1000 - (i : Int)).toNat = (i : Int) := fnd_e _ (by omega)
        exact ⟨_, hw, hnr_1, by rw [hk, hst, if_neg (by omega)]⟩
      · refine lv_aload_n hx hb dX1_firstShort_13 rfl (lv_at hl 1 rfl) ?_
        refine zget (C := RX1) (T := TX1) (N := 9) hx hb hts hinX1 hown hE hw 0 yE_0 rfl 2 (by decide) (hts (.fieldLink RX1 16 "FormworkYard" "needs" "[I") (by decide +kernel)) rfl dX1_firstShort_14 ?_
        refine lv_iload_n hx hb dX1_firstShort_17 rfl (lv_at hl 0 rfl) ?_
        refine ziald hx hb hE hw 3 yE_3 i rfl (by omega) (by omega) dX1_firstShort_18 ?_
        refine zi_top (fun v_18 hv_18 => ?_)
        rw [hnn_1 i (by omega)] at hv_18
        have hnb := nY_b (h := i) ha (Nat.le_refl 10)
        refine lv_aload_n hx hb dX1_firstShort_19 rfl (lv_at hl 1 rfl) ?_
        refine zget (C := RX1) (T := TX1) (N := 9) hx hb hts hinX1 hown hE hw 0 yE_0 rfl 5 (by decide) (hts (.fieldLink RX1 28 "FormworkYard" "yardPanels" "I") (by decide +kernel)) rfl dX1_firstShort_20 ?_
        refine zc_le (tgt := 28) hx hb dX1_firstShort_23 (by decide) (by first | decide | (constructor <;> omega)) (by first | decide | (constructor <;> omega)) (fun c_23 => ?_) (fun c_23 => ?_)
        · refine zi_iinc (lv' := [(1, .int (iI ((i : Int) + 1))), (0, .ref (ad 0))]) hx hb dX1_firstShort_28 hl (k := 0) rfl (by decide) rfl (fun ls hl => ?_)
          refine lv_goto (tgt := 6) hx hb dX1_firstShort_31 (by decide) ?_
          have hst : fnd (fun h => yi 5 < nY pr h 10) i (1000 - (i : Int)).toNat = if yi 5 < nY pr i 10 then (i : Int) else fnd (fun h => yi 5 < nY pr h 10) (i + 1) (1000 - ((i : Int) + 1)).toNat := fnd_s _ (by omega)
          rw [if_neg (by omega)] at hst
          exact ih (i + 1) _ _ _ (by omega) (by omega) (hk.trans hst) hw hS (lv_sub hl [0, 1] rfl)
        · refine lv_iload_n hx hb dX1_firstShort_26 rfl (lv_at hl 0 rfl) ?_
          refine ziret hx hb hr hlocks hS (Nat.le_of_ble_eq_true rfl) (Nat.le_of_ble_eq_true rfl) (by first | decide | (constructor <;> omega)) ?_ dX1_firstShort_27
          have hst : fnd (fun h => yi 5 < nY pr h 10) i (1000 - (i : Int)).toNat = if yi 5 < nY pr i 10 then (i : Int) else fnd (fun h => yi 5 < nY pr h 10) (i + 1) (1000 - ((i : Int) + 1)).toNat := fnd_s _ (by omega)
          rw [if_pos (by omega)] at hst
          exact ⟨_, hw, hnr_1, by rw [hk, hst, if_pos (by omega)]⟩
  exact loop_6 1001 0 _ _ _ (by omega) (by omega) rfl hw hS (lv_sub hl [0, 1] rfl)
