set_option maxHeartbeats 4000000 in
set_option maxRecDepth 100000 in
theorem c_x_X1_setTemperature_1 (l : Launch) (hlf : l.stackTraces = false) (D : va_G) (cy : Nat → ClassId) (A : Nat → Prop) (ad : Nat → Nat) (ya : Nat → Nat → Int) (yi : Nat → Int) (pr : Nat → Option PS) (H0 : Heap) (a b t : Int) (hw : zW D A ad (yE cy ad ya yi pr) H0) (h1 : zr a) (h2 : zr b) (h3 : zr t) (h0 : ¬ (0 ≤ a ∧ a < 1000) ∨ ((0 ≤ a ∧ a < 1000) ∧ ¬ (0 ≤ b ∧ b < 1000))) : vx_Met l yX1_setTemperature wsX1_setTemperature ({ frames := 7, cells := 1, slots := 6, locals := 114 }) (zPc D cy A [.ref (ad 0), .int (iI (a)), .int (iI (b)), .int (iI (t))] H0) zN (zX "java/lang/IndexOutOfBoundsException" H0 A) 1 6 A := by
  refine vx_ofW (cc := cX1_setTemperature) (maxL := 5) (ret := none) (by decide) rfl ?_
  intro pg en s mt args below meth c s₁ B hml htb hv
  obtain ⟨rfl, hH, hE⟩ := hv
  subst hH
  have hx := B.exec
  have hb := B.bytes
  have hr := B.returns
  have hts := atoms_spec (ws := wsX1_setTemperature) B.pre
  have hown : s.vm.findClass RX1 = some mt.cls := findClass_of_methodNamed B.named
  have hlocks := B.notSynchronized
  have hinX1 : ∀ w ∈ u_ws RX1 TX1 9, w ∈ wsX1_setTemperature := by decide +kernel
  have hS : va_S A s.heap s.heap [] := va_S.rf
  have hl := lv_entry ([.ref (ad 0), .int (iI (a)), .int (iI (b)), .int (iI (t))]) (n := 5) (Nat.le_of_ble_eq_true rfl)
  rw [lg_entry_eq]
  generalize (lg_sl ([.ref (ad 0), .int (iI (a)), .int (iI (b)), .int (iI (t))]) ++ List.replicate (5 - (lg_sl ([.ref (ad 0), .int (iI (a)), .int (iI (b)), .int (iI (t))])).length) Slot.unset).toArray = ls at hl ⊢
  have hl : lv_has ls 5 [(0, .ref (ad 0)), (1, .int (iI (a))), (2, .int (iI (b))), (3, .int (iI (t)))] := hl
  rcases h0 with h9 | h9
  · refine lv_iload_n hx hb dX1_setTemperature_0 rfl (lv_at hl 1 rfl) ?_
    exact zxcall (vx_runS (As := [.int (iI (a))]) (rest := []) ⟨hx, hb, hml, hown, hts⟩ (c_x_X1_requireHour l hlf D cy A ad _ (a) (by first | decide | (constructor <;> omega)) (by omega)) (va_cwS 1 hts gX1_setTemperature_X1_requireHour rfl rfl rfl (by decide +kernel) ⟨(Nat.le_of_ble_eq_true rfl), (Nat.le_of_ble_eq_true rfl)⟩) (zPS hE hS) rfl rfl hl.1 rfl (lv_room (Nat.le_of_ble_eq_true rfl)) dX1_setTemperature_1 ⟨(Nat.le_of_ble_eq_true rfl), (Nat.le_of_ble_eq_true rfl)⟩) hS htb hlocks
  · refine lv_iload_n hx hb dX1_setTemperature_0 rfl (lv_at hl 1 rfl) ?_
    refine zcallv (va_runS (As := [.int (iI (a))]) (rest := []) ⟨hx, hb, hml, hown, hts⟩ (c_X1_requireHour_ok l D cy A ad _ (a) (by omega)) (va_cwS 1 hts gX1_setTemperature_X1_requireHour rfl rfl rfl (by decide +kernel) ⟨(Nat.le_of_ble_eq_true rfl), (Nat.le_of_ble_eq_true rfl)⟩) (zPS hE hS) rfl rfl hl.1 rfl (lv_room (Nat.le_of_ble_eq_true rfl)) dX1_setTemperature_1 ⟨(Nat.le_of_ble_eq_true rfl), (Nat.le_of_ble_eq_true rfl)⟩) hS (fun H1 locs hq hz1 hk1 hS => ?_)
    replace hq := hq.symm
    subst hq
    refine lv_iload_n hx hb dX1_setTemperature_4 rfl (lv_at hl 2 rfl) ?_
    exact zxcall (vx_runS (As := [.int (iI (b))]) (rest := []) ⟨hx, hb, hml, hown, hts⟩ (c_x_X1_requireHour l hlf D cy A ad _ (b) (by first | decide | (constructor <;> omega)) (by omega)) (va_cwS 1 hts gX1_setTemperature_X1_requireHour rfl rfl rfl (by decide +kernel) ⟨(Nat.le_of_ble_eq_true rfl), (Nat.le_of_ble_eq_true rfl)⟩) (zPS hE hS) rfl rfl hl.1 rfl (lv_room (Nat.le_of_ble_eq_true rfl)) dX1_setTemperature_5 ⟨(Nat.le_of_ble_eq_true rfl), (Nat.le_of_ble_eq_true rfl)⟩) hS htb hlocks

set_option maxHeartbeats 4000000 in
set_option maxRecDepth 100000 in
theorem c_x_X1_setTemperature_2 (l : Launch) (hlf : l.stackTraces = false) (D : va_G) (cy : Nat → ClassId) (A : Nat → Prop) (ad : Nat → Nat) (ya : Nat → Nat → Int) (yi : Nat → Int) (pr : Nat → Option PS) (H0 : Heap) (a b t : Int) (hw : zW D A ad (yE cy ad ya yi pr) H0) (h1 : (0 ≤ a ∧ a < 1000)) (h2 : (0 ≤ b ∧ b < 1000)) (h3 : zr t) (h0 : b < a ∨ (a ≤ b ∧ ¬ (-40 ≤ t ∧ t ≤ 50))) : vx_Met l yX1_setTemperature wsX1_setTemperature ({ frames := 8, cells := 1, slots := 6, locals := 123 }) (zPc D cy A [.ref (ad 0), .int (iI (a)), .int (iI (b)), .int (iI (t))] H0) zN (zX "java/lang/IllegalArgumentException" H0 A) 1 6 A := by
  refine vx_ofW (cc := cX1_setTemperature) (maxL := 5) (ret := none) (by decide) rfl ?_
  intro pg en s mt args below meth c s₁ B hml htb hv
  obtain ⟨rfl, hH, hE⟩ := hv
  subst hH
  have hx := B.exec
  have hb := B.bytes
  have hr := B.returns
  have hts := atoms_spec (ws := wsX1_setTemperature) B.pre
  have hown : s.vm.findClass RX1 = some mt.cls := findClass_of_methodNamed B.named
  have hlocks := B.notSynchronized
  have hinX1 : ∀ w ∈ u_ws RX1 TX1 9, w ∈ wsX1_setTemperature := by decide +kernel
  have hS : va_S A s.heap s.heap [] := va_S.rf
  have hl := lv_entry ([.ref (ad 0), .int (iI (a)), .int (iI (b)), .int (iI (t))]) (n := 5) (Nat.le_of_ble_eq_true rfl)
  rw [lg_entry_eq]
  generalize (lg_sl ([.ref (ad 0), .int (iI (a)), .int (iI (b)), .int (iI (t))]) ++ List.replicate (5 - (lg_sl ([.ref (ad 0), .int (iI (a)), .int (iI (b)), .int (iI (t))])).length) Slot.unset).toArray = ls at hl ⊢
  have hl : lv_has ls 5 [(0, .ref (ad 0)), (1, .int (iI (a))), (2, .int (iI (b))), (3, .int (iI (t)))] := hl
  rcases h0 with h9 | h9
  · refine lv_iload_n hx hb dX1_setTemperature_0 rfl (lv_at hl 1 rfl) ?_
    refine zcallv (va_runS (As := [.int (iI (a))]) (rest := []) ⟨hx, hb, hml, hown, hts⟩ (c_X1_requireHour_ok l D cy A ad _ (a) (by omega)) (va_cwS 1 hts gX1_setTemperature_X1_requireHour rfl rfl rfl (by decide +kernel) ⟨(Nat.le_of_ble_eq_true rfl), (Nat.le_of_ble_eq_true rfl)⟩) (zPS hE hS) rfl rfl hl.1 rfl (lv_room (Nat.le_of_ble_eq_true rfl)) dX1_setTemperature_1 ⟨(Nat.le_of_ble_eq_true rfl), (Nat.le_of_ble_eq_true rfl)⟩) hS (fun H1 locs hq hz1 hk1 hS => ?_)
    replace hq := hq.symm
    subst hq
    refine lv_iload_n hx hb dX1_setTemperature_4 rfl (lv_at hl 2 rfl) ?_
    refine zcallv (va_runS (As := [.int (iI (b))]) (rest := []) ⟨hx, hb, hml, hown, hts⟩ (c_X1_requireHour_ok l D cy A ad _ (b) (by omega)) (va_cwS 1 hts gX1_setTemperature_X1_requireHour rfl rfl rfl (by decide +kernel) ⟨(Nat.le_of_ble_eq_true rfl), (Nat.le_of_ble_eq_true rfl)⟩) (zPS hE hS) rfl rfl hl.1 rfl (lv_room (Nat.le_of_ble_eq_true rfl)) dX1_setTemperature_5 ⟨(Nat.le_of_ble_eq_true rfl), (Nat.le_of_ble_eq_true rfl)⟩) hS (fun H1 locs hq hz1 hk1 hS => ?_)
    replace hq := hq.symm
    subst hq
    refine lv_iload_n hx hb dX1_setTemperature_8 rfl (lv_at hl 1 rfl) ?_
    refine lv_iload_n hx hb dX1_setTemperature_9 rfl (lv_at hl 2 rfl) ?_
    refine zc_gt (tgt := 17) hx hb dX1_setTemperature_10 (by decide) (by first | decide | (constructor <;> omega)) (by first | decide | (constructor <;> omega)) (fun c_10 => ?_) (fun c_10 => ?_)
    · refine zi_const hx hb dX1_setTemperature_17 ?_
      exact zxcall (vx_runS (As := [.int (iI (0))]) (rest := []) ⟨hx, hb, hml, hown, hts⟩ (c_x_X1_require l hlf D cy A ad _ (0) (by omega)) (va_cwS 1 hts gX1_setTemperature_X1_require rfl rfl rfl (by decide +kernel) ⟨(Nat.le_of_ble_eq_true rfl), (Nat.le_of_ble_eq_true rfl)⟩) (zPS hE hS) rfl rfl hl.1 rfl (lv_room (Nat.le_of_ble_eq_true rfl)) dX1_setTemperature_18 ⟨(Nat.le_of_ble_eq_true rfl), (Nat.le_of_ble_eq_true rfl)⟩) hS htb hlocks
    · refine zi_const hx hb dX1_setTemperature_13 ?_
      refine lv_goto (tgt := 18) hx hb dX1_setTemperature_14 (by decide) ?_
      refine zcallv (va_runS (As := [.int (iI (1))]) (rest := []) ⟨hx, hb, hml, hown, hts⟩ (c_X1_require_ok l D cy A ad _ (1) (by omega)) (va_cwS 1 hts gX1_setTemperature_X1_require rfl rfl rfl (by decide +kernel) ⟨(Nat.le_of_ble_eq_true rfl), (Nat.le_of_ble_eq_true rfl)⟩) (zPS hE hS) rfl rfl hl.1 rfl (lv_room (Nat.le_of_ble_eq_true rfl)) dX1_setTemperature_18 ⟨(Nat.le_of_ble_eq_true rfl), (Nat.le_of_ble_eq_true rfl)⟩) hS (fun H1 locs hq hz1 hk1 hS => ?_)
      replace hq := hq.symm
      subst hq
      refine lv_iload_n hx hb dX1_setTemperature_21 rfl (lv_at hl 3 rfl) ?_
      refine zi_bipush hx hb dX1_setTemperature_22 (by decide) ?_
      refine zi_bipush hx hb dX1_setTemperature_24 (by decide) ?_
      exact zxcall (vx_runS (As := [.int (iI (t)), .int (iI ((-40))), .int (iI (50))]) (rest := []) ⟨hx, hb, hml, hown, hts⟩ (c_x_X1_requireRange l hlf D cy A ad _ (t) ((-40)) (50) (by first | decide | (constructor <;> omega)) (by first | decide | (constructor <;> omega)) (by first | decide | (constructor <;> omega)) (by omega)) (va_cwS 3 hts gX1_setTemperature_X1_requireRange rfl rfl rfl (by decide +kernel) ⟨(Nat.le_of_ble_eq_true rfl), (Nat.le_of_ble_eq_true rfl)⟩) (zPS hE hS) rfl rfl hl.1 rfl (lv_room (Nat.le_of_ble_eq_true rfl)) dX1_setTemperature_26 ⟨(Nat.le_of_ble_eq_true rfl), (Nat.le_of_ble_eq_true rfl)⟩) hS htb hlocks
  · refine lv_iload_n hx hb dX1_setTemperature_0 rfl (lv_at hl 1 rfl) ?_
    refine zcallv (va_runS (As := [.int (iI (a))]) (rest := []) ⟨hx, hb, hml, hown, hts⟩ (c_X1_requireHour_ok l D cy A ad _ (a) (by omega)) (va_cwS 1 hts gX1_setTemperature_X1_requireHour rfl rfl rfl (by decide +kernel) ⟨(Nat.le_of_ble_eq_true rfl), (Nat.le_of_ble_eq_true rfl)⟩) (zPS hE hS) rfl rfl hl.1 rfl (lv_room (Nat.le_of_ble_eq_true rfl)) dX1_setTemperature_1 ⟨(Nat.le_of_ble_eq_true rfl), (Nat.le_of_ble_eq_true rfl)⟩) hS (fun H1 locs hq hz1 hk1 hS => ?_)
    replace hq := hq.symm
    subst hq
    refine lv_iload_n hx hb dX1_setTemperature_4 rfl (lv_at hl 2 rfl) ?_
    refine zcallv (va_runS (As := [.int (iI (b))]) (rest := []) ⟨hx, hb, hml, hown, hts⟩ (c_X1_requireHour_ok l D cy A ad _ (b) (by omega)) (va_cwS 1 hts gX1_setTemperature_X1_requireHour rfl rfl rfl (by decide +kernel) ⟨(Nat.le_of_ble_eq_true rfl), (Nat.le_of_ble_eq_true rfl)⟩) (zPS hE hS) rfl rfl hl.1 rfl (lv_room (Nat.le_of_ble_eq_true rfl)) dX1_setTemperature_5 ⟨(Nat.le_of_ble_eq_true rfl), (Nat.le_of_ble_eq_true rfl)⟩) hS (fun H1 locs hq hz1 hk1 hS => ?_)
    replace hq := hq.symm
    subst hq
    refine lv_iload_n hx hb dX1_setTemperature_8 rfl (lv_at hl 1 rfl) ?_
    refine lv_iload_n hx hb dX1_setTemperature_9 rfl (lv_at hl 2 rfl) ?_
    refine zc_gt (tgt := 17) hx hb dX1_setTemperature_10 (by decide) (by first | decide | (constructor <;> omega)) (by first | decide | (constructor <;> omega)) (fun c_10 => ?_) (fun c_10 => ?_)
    · refine zi_const hx hb dX1_setTemperature_17 ?_
      exact zxcall (vx_runS (As := [.int (iI (0))]) (rest := []) ⟨hx, hb, hml, hown, hts⟩ (c_x_X1_require l hlf D cy A ad _ (0) (by omega)) (va_cwS 1 hts gX1_setTemperature_X1_require rfl rfl rfl (by decide +kernel) ⟨(Nat.le_of_ble_eq_true rfl), (Nat.le_of_ble_eq_true rfl)⟩) (zPS hE hS) rfl rfl hl.1 rfl (lv_room (Nat.le_of_ble_eq_true rfl)) dX1_setTemperature_18 ⟨(Nat.le_of_ble_eq_true rfl), (Nat.le_of_ble_eq_true rfl)⟩) hS htb hlocks
    · refine zi_const hx hb dX1_setTemperature_13 ?_
      refine lv_goto (tgt := 18) hx hb dX1_setTemperature_14 (by decide) ?_
      refine zcallv (va_runS (As := [.int (iI (1))]) (rest := []) ⟨hx, hb, hml, hown, hts⟩ (c_X1_require_ok l D cy A ad _ (1) (by omega)) (va_cwS 1 hts gX1_setTemperature_X1_require rfl rfl rfl (by decide +kernel) ⟨(Nat.le_of_ble_eq_true rfl), (Nat.le_of_ble_eq_true rfl)⟩) (zPS hE hS) rfl rfl hl.1 rfl (lv_room (Nat.le_of_ble_eq_true rfl)) dX1_setTemperature_18 ⟨(Nat.le_of_ble_eq_true rfl), (Nat.le_of_ble_eq_true rfl)⟩) hS (fun H1 locs hq hz1 hk1 hS => ?_)
      replace hq := hq.symm
      subst hq
      refine lv_iload_n hx hb dX1_setTemperature_21 rfl (lv_at hl 3 rfl) ?_
      refine zi_bipush hx hb dX1_setTemperature_22 (by decide) ?_
      refine zi_bipush hx hb dX1_setTemperature_24 (by decide) ?_
      exact zxcall (vx_runS (As := [.int (iI (t)), .int (iI ((-40))), .int (iI (50))]) (rest := []) ⟨hx, hb, hml, hown, hts⟩ (c_x_X1_requireRange l hlf D cy A ad _ (t) ((-40)) (50) (by first | decide | (constructor <;> omega)) (by first | decide | (constructor <;> omega)) (by first | decide | (constructor <;> omega)) (by omega)) (va_cwS 3 hts gX1_setTemperature_X1_requireRange rfl rfl rfl (by decide +kernel) ⟨(Nat.le_of_ble_eq_true rfl), (Nat.le_of_ble_eq_true rfl)⟩) (zPS hE hS) rfl rfl hl.1 rfl (lv_room (Nat.le_of_ble_eq_true rfl)) dX1_setTemperature_26 ⟨(Nat.le_of_ble_eq_true rfl), (Nat.le_of_ble_eq_true rfl)⟩) hS htb hlocks

set_option maxHeartbeats 4000000 in
set_option maxRecDepth 100000 in
theorem c_x_X1_temperature (l : Launch) (hlf : l.stackTraces = false) (D : va_G) (cy : Nat → ClassId) (A : Nat → Prop) (ad : Nat → Nat) (ya : Nat → Nat → Int) (yi : Nat → Int) (pr : Nat → Option PS) (H0 : Heap) (a : Int) (hw : zW D A ad (yE cy ad ya yi pr) H0) (h1 : zr a) (h0 : ¬ (0 ≤ a ∧ a < 1000)) : vx_Met l yX1_temperature wsX1_temperature ({ frames := 7, cells := 1, slots := 6, locals := 101 }) (zPc D cy A [.ref (ad 0), .int (iI (a))] H0) zN (zX "java/lang/IndexOutOfBoundsException" H0 A) 1 6 A := by
  refine vx_ofW (cc := cX1_temperature) (maxL := 2) (ret := (some .int)) (by decide) rfl ?_
  intro pg en s mt args below meth c s₁ B hml htb hv
  obtain ⟨rfl, hH, hE⟩ := hv
  subst hH
  have hx := B.exec
  have hb := B.bytes
  have hr := B.returns
  have hts := atoms_spec (ws := wsX1_temperature) B.pre
  have hown : s.vm.findClass RX1 = some mt.cls := findClass_of_methodNamed B.named
  have hlocks := B.notSynchronized
  have hinX1 : ∀ w ∈ u_ws RX1 TX1 9, w ∈ wsX1_temperature := by decide +kernel
  have hS : va_S A s.heap s.heap [] := va_S.rf
  have hl := lv_entry ([.ref (ad 0), .int (iI (a))]) (n := 2) (Nat.le_of_ble_eq_true rfl)
  rw [lg_entry_eq]
  generalize (lg_sl ([.ref (ad 0), .int (iI (a))]) ++ List.replicate (2 - (lg_sl ([.ref (ad 0), .int (iI (a))])).length) Slot.unset).toArray = ls at hl ⊢
  have hl : lv_has ls 2 [(0, .ref (ad 0)), (1, .int (iI (a)))] := hl
  refine lv_iload_n hx hb dX1_temperature_0 rfl (lv_at hl 1 rfl) ?_
  exact zxcall (vx_runS (As := [.int (iI (a))]) (rest := []) ⟨hx, hb, hml, hown, hts⟩ (c_x_X1_requireHour l hlf D cy A ad _ (a) (by first | decide | (constructor <;> omega)) (by omega)) (va_cwS 1 hts gX1_temperature_X1_requireHour rfl rfl rfl (by decide +kernel) ⟨(Nat.le_of_ble_eq_true rfl), (Nat.le_of_ble_eq_true rfl)⟩) (zPS hE hS) rfl rfl hl.1 rfl (lv_room (Nat.le_of_ble_eq_true rfl)) dX1_temperature_1 ⟨(Nat.le_of_ble_eq_true rfl), (Nat.le_of_ble_eq_true rfl)⟩) hS htb hlocks

set_option maxHeartbeats 4000000 in
set_option maxRecDepth 100000 in
theorem c_x_X1_maturity (l : Launch) (hlf : l.stackTraces = false) (D : va_G) (cy : Nat → ClassId) (A : Nat → Prop) (ad : Nat → Nat) (ya : Nat → Nat → Int) (yi : Nat → Int) (pr : Nat → Option PS) (H0 : Heap) (a b : Int) (hw : zW D A ad (yE cy ad ya yi pr) H0) (h1 : zr a) (h2 : zr b) (h0 : ¬ (0 ≤ a ∧ a < 1000) ∨ ((0 ≤ a ∧ a < 1000) ∧ ¬ (0 ≤ b ∧ b < 1000))) : vx_Met l yX1_maturity wsX1_maturity ({ frames := 7, cells := 1, slots := 6, locals := 101 }) (zPc D cy A [.ref (ad 0), .int (iI (a)), .int (iI (b))] H0) zN (zX "java/lang/IndexOutOfBoundsException" H0 A) 1 6 A := by
  refine vx_ofW (cc := cX1_maturity) (maxL := 3) (ret := (some .int)) (by decide) rfl ?_
  intro pg en s mt args below meth c s₁ B hml htb hv
  obtain ⟨rfl, hH, hE⟩ := hv
  subst hH
  have hx := B.exec
  have hb := B.bytes
  have hr := B.returns
  have hts := atoms_spec (ws := wsX1_maturity) B.pre
  have hown : s.vm.findClass RX1 = some mt.cls := findClass_of_methodNamed B.named
  have hlocks := B.notSynchronized
  have hS : va_S A s.heap s.heap [] := va_S.rf
  have hl := lv_entry ([.ref (ad 0), .int (iI (a)), .int (iI (b))]) (n := 3) (Nat.le_of_ble_eq_true rfl)
  rw [lg_entry_eq]
  generalize (lg_sl ([.ref (ad 0), .int (iI (a)), .int (iI (b))]) ++ List.replicate (3 - (lg_sl ([.ref (ad 0), .int (iI (a)), .int (iI (b))])).length) Slot.unset).toArray = ls at hl ⊢
  have hl : lv_has ls 3 [(0, .ref (ad 0)), (1, .int (iI (a))), (2, .int (iI (b)))] := hl
  rcases h0 with h9 | h9
  · refine lv_iload_n hx hb dX1_maturity_0 rfl (lv_at hl 1 rfl) ?_
    exact zxcall (vx_runS (As := [.int (iI (a))]) (rest := []) ⟨hx, hb, hml, hown, hts⟩ (c_x_X1_requireHour l hlf D cy A ad _ (a) (by first | decide | (constructor <;> omega)) (by omega)) (va_cwS 1 hts gX1_maturity_X1_requireHour rfl rfl rfl (by decide +kernel) ⟨(Nat.le_of_ble_eq_true rfl), (Nat.le_of_ble_eq_true rfl)⟩) (zPS hE hS) rfl rfl hl.1 rfl (lv_room (Nat.le_of_ble_eq_true rfl)) dX1_maturity_1 ⟨(Nat.le_of_ble_eq_true rfl), (Nat.le_of_ble_eq_true rfl)⟩) hS htb hlocks
  · refine lv_iload_n hx hb dX1_maturity_0 rfl (lv_at hl 1 rfl) ?_
    refine zcallv (va_runS (As := [.int (iI (a))]) (rest := []) ⟨hx, hb, hml, hown, hts⟩ (c_X1_requireHour_ok l D cy A ad _ (a) (by omega)) (va_cwS 1 hts gX1_maturity_X1_requireHour rfl rfl rfl (by decide +kernel) ⟨(Nat.le_of_ble_eq_true rfl), (Nat.le_of_ble_eq_true rfl)⟩) (zPS hE hS) rfl rfl hl.1 rfl (lv_room (Nat.le_of_ble_eq_true rfl)) dX1_maturity_1 ⟨(Nat.le_of_ble_eq_true rfl), (Nat.le_of_ble_eq_true rfl)⟩) hS (fun H1 locs hq hz1 hk1 hS => ?_)
    replace hq := hq.symm
    subst hq
    refine lv_iload_n hx hb dX1_maturity_4 rfl (lv_at hl 2 rfl) ?_
    exact zxcall (vx_runS (As := [.int (iI (b))]) (rest := []) ⟨hx, hb, hml, hown, hts⟩ (c_x_X1_requireHour l hlf D cy A ad _ (b) (by first | decide | (constructor <;> omega)) (by omega)) (va_cwS 1 hts gX1_maturity_X1_requireHour rfl rfl rfl (by decide +kernel) ⟨(Nat.le_of_ble_eq_true rfl), (Nat.le_of_ble_eq_true rfl)⟩) (zPS hE hS) rfl rfl hl.1 rfl (lv_room (Nat.le_of_ble_eq_true rfl)) dX1_maturity_5 ⟨(Nat.le_of_ble_eq_true rfl), (Nat.le_of_ble_eq_true rfl)⟩) hS htb hlocks

set_option maxHeartbeats 4000000 in
set_option maxRecDepth 100000 in
theorem c_x_X1_strength (l : Launch) (hlf : l.stackTraces = false) (D : va_G) (cy : Nat → ClassId) (A : Nat → Prop) (ad : Nat → Nat) (ya : Nat → Nat → Int) (yi : Nat → Int) (pr : Nat → Option PS) (H0 : Heap) (v : Int) (hw : zW D A ad (yE cy ad ya yi pr) H0) (h1 : zr v) (h0 : ¬ (0 ≤ v ∧ v ≤ 1000000)) : vx_Met l yX1_strength wsX1_strength ({ frames := 8, cells := 1, slots := 6, locals := 123 }) (zPc D cy A [.ref (ad 0), .int (iI (v))] H0) zN (zX "java/lang/IllegalArgumentException" H0 A) 1 6 A := by
  refine vx_ofW (cc := cX1_strength) (maxL := 2) (ret := (some .int)) (by decide) rfl ?_
  intro pg en s mt args below meth c s₁ B hml htb hv
  obtain ⟨rfl, hH, hE⟩ := hv
  subst hH
  have hx := B.exec
  have hb := B.bytes
  have hr := B.returns
  have hts := atoms_spec (ws := wsX1_strength) B.pre
  have hown : s.vm.findClass RX1 = some mt.cls := findClass_of_methodNamed B.named
  have hlocks := B.notSynchronized
  have hS : va_S A s.heap s.heap [] := va_S.rf
  have hl := lv_entry ([.ref (ad 0), .int (iI (v))]) (n := 2) (Nat.le_of_ble_eq_true rfl)
  rw [lg_entry_eq]
  generalize (lg_sl ([.ref (ad 0), .int (iI (v))]) ++ List.replicate (2 - (lg_sl ([.ref (ad 0), .int (iI (v))])).length) Slot.unset).toArray = ls at hl ⊢
  have hl : lv_has ls 2 [(0, .ref (ad 0)), (1, .int (iI (v)))] := hl
  refine lv_iload_n hx hb dX1_strength_0 rfl (lv_at hl 1 rfl) ?_
  refine zi_const hx hb dX1_strength_1 ?_
  refine lv_ldc (v := iI 1000000) hx hb hown (hts (.constant RX1 69 (iI 1000000)) (by decide +kernel)) dX1_strength_2 ?_
  exact zxcall (vx_runS (As := [.int (iI (v)), .int (iI (0)), .int (iI (1000000))]) (rest := []) ⟨hx, hb, hml, hown, hts⟩ (c_x_X1_requireRange l hlf D cy A ad _ (v) (0) (1000000) (by first | decide | (constructor <;> omega)) (by first | decide | (constructor <;> omega)) (by first | decide | (constructor <;> omega)) (by omega)) (va_cwS 3 hts gX1_strength_X1_requireRange rfl rfl rfl (by decide +kernel) ⟨(Nat.le_of_ble_eq_true rfl), (Nat.le_of_ble_eq_true rfl)⟩) (zPS hE hS) rfl rfl hl.1 rfl (lv_room (Nat.le_of_ble_eq_true rfl)) dX1_strength_4 ⟨(Nat.le_of_ble_eq_true rfl), (Nat.le_of_ble_eq_true rfl)⟩) hS htb hlocks

set_option maxHeartbeats 4000000 in
set_option maxRecDepth 100000 in
theorem c_x_X1_setPanels (l : Launch) (hlf : l.stackTraces = false) (D : va_G) (cy : Nat → ClassId) (A : Nat → Prop) (ad : Nat → Nat) (ya : Nat → Nat → Int) (yi : Nat → Int) (pr : Nat → Option PS) (H0 : Heap) (v : Int) (hw : zW D A ad (yE cy ad ya yi pr) H0) (h1 : zr v) (h0 : ¬ (0 ≤ v ∧ v ≤ 60)) : vx_Met l yX1_setPanels wsX1_setPanels ({ frames := 8, cells := 1, slots := 6, locals := 123 }) (zPc D cy A [.ref (ad 0), .int (iI (v))] H0) zN (zX "java/lang/IllegalArgumentException" H0 A) 1 6 A := by
  refine vx_ofW (cc := cX1_setPanels) (maxL := 3) (ret := (some .int)) (by decide) rfl ?_
  intro pg en s mt args below meth c s₁ B hml htb hv
  obtain ⟨rfl, hH, hE⟩ := hv
  subst hH
  have hx := B.exec
  have hb := B.bytes
  have hr := B.returns
  have hts := atoms_spec (ws := wsX1_setPanels) B.pre
  have hown : s.vm.findClass RX1 = some mt.cls := findClass_of_methodNamed B.named
  have hlocks := B.notSynchronized
  have hinX1 : ∀ w ∈ u_ws RX1 TX1 9, w ∈ wsX1_setPanels := by decide +kernel
  have hS : va_S A s.heap s.heap [] := va_S.rf
  have hl := lv_entry ([.ref (ad 0), .int (iI (v))]) (n := 3) (Nat.le_of_ble_eq_true rfl)
  rw [lg_entry_eq]
  generalize (lg_sl ([.ref (ad 0), .int (iI (v))]) ++ List.replicate (3 - (lg_sl ([.ref (ad 0), .int (iI (v))])).length) Slot.unset).toArray = ls at hl ⊢
  have hl : lv_has ls 3 [(0, .ref (ad 0)), (1, .int (iI (v)))] := hl
  refine lv_iload_n hx hb dX1_setPanels_0 rfl (lv_at hl 1 rfl) ?_
  refine zi_const hx hb dX1_setPanels_1 ?_
  refine zi_bipush hx hb dX1_setPanels_2 (by decide) ?_
  exact zxcall (vx_runS (As := [.int (iI (v)), .int (iI (0)), .int (iI (60))]) (rest := []) ⟨hx, hb, hml, hown, hts⟩ (c_x_X1_requireRange l hlf D cy A ad _ (v) (0) (60) (by first | decide | (constructor <;> omega)) (by first | decide | (constructor <;> omega)) (by first | decide | (constructor <;> omega)) (by omega)) (va_cwS 3 hts gX1_setPanels_X1_requireRange rfl rfl rfl (by decide +kernel) ⟨(Nat.le_of_ble_eq_true rfl), (Nat.le_of_ble_eq_true rfl)⟩) (zPS hE hS) rfl rfl hl.1 rfl (lv_room (Nat.le_of_ble_eq_true rfl)) dX1_setPanels_4 ⟨(Nat.le_of_ble_eq_true rfl), (Nat.le_of_ble_eq_true rfl)⟩) hS htb hlocks

set_option maxHeartbeats 4000000 in
set_option maxRecDepth 100000 in
theorem c_x_X1_setRates (l : Launch) (hlf : l.stackTraces = false) (D : va_G) (cy : Nat → ClassId) (A : Nat → Prop) (ad : Nat → Nat) (ya : Nat → Nat → Int) (yi : Nat → Int) (pr : Nat → Option PS) (H0 : Heap) (a b : Int) (hw : zW D A ad (yE cy ad ya yi pr) H0) (h1 : zr a) (h2 : zr b) (h0 : ¬ (1 ≤ a ∧ a ≤ 50) ∨ ((1 ≤ a ∧ a ≤ 50) ∧ ¬ (1 ≤ b ∧ b ≤ 50))) : vx_Met l yX1_setRates wsX1_setRates ({ frames := 8, cells := 1, slots := 6, locals := 123 }) (zPc D cy A [.ref (ad 0), .int (iI (a)), .int (iI (b))] H0) zN (zX "java/lang/IllegalArgumentException" H0 A) 1 6 A := by
  refine vx_ofW (cc := cX1_setRates) (maxL := 3) (ret := (some .int)) (by decide) rfl ?_
  intro pg en s mt args below meth c s₁ B hml htb hv
  obtain ⟨rfl, hH, hE⟩ := hv
  subst hH
  have hx := B.exec
  have hb := B.bytes
  have hr := B.returns
  have hts := atoms_spec (ws := wsX1_setRates) B.pre
  have hown : s.vm.findClass RX1 = some mt.cls := findClass_of_methodNamed B.named
  have hlocks := B.notSynchronized
  have hinX1 : ∀ w ∈ u_ws RX1 TX1 9, w ∈ wsX1_setRates := by decide +kernel
  have hS : va_S A s.heap s.heap [] := va_S.rf
  have hl := lv_entry ([.ref (ad 0), .int (iI (a)), .int (iI (b))]) (n := 3) (Nat.le_of_ble_eq_true rfl)
  rw [lg_entry_eq]
  generalize (lg_sl ([.ref (ad 0), .int (iI (a)), .int (iI (b))]) ++ List.replicate (3 - (lg_sl ([.ref (ad 0), .int (iI (a)), .int (iI (b))])).length) Slot.unset).toArray = ls at hl ⊢
  have hl : lv_has ls 3 [(0, .ref (ad 0)), (1, .int (iI (a))), (2, .int (iI (b)))] := hl
  rcases h0 with h9 | h9
  · refine lv_iload_n hx hb dX1_setRates_0 rfl (lv_at hl 1 rfl) ?_
    refine zi_const hx hb dX1_setRates_1 ?_
    refine zi_bipush hx hb dX1_setRates_2 (by decide) ?_
    exact zxcall (vx_runS (As := [.int (iI (a)), .int (iI (1)), .int (iI (50))]) (rest := []) ⟨hx, hb, hml, hown, hts⟩ (c_x_X1_requireRange l hlf D cy A ad _ (a) (1) (50) (by first | decide | (constructor <;> omega)) (by first | decide | (constructor <;> omega)) (by first | decide | (constructor <;> omega)) (by omega)) (va_cwS 3 hts gX1_setRates_X1_requireRange rfl rfl rfl (by decide +kernel) ⟨(Nat.le_of_ble_eq_true rfl), (Nat.le_of_ble_eq_true rfl)⟩) (zPS hE hS) rfl rfl hl.1 rfl (lv_room (Nat.le_of_ble_eq_true rfl)) dX1_setRates_4 ⟨(Nat.le_of_ble_eq_true rfl), (Nat.le_of_ble_eq_true rfl)⟩) hS htb hlocks
  · refine lv_iload_n hx hb dX1_setRates_0 rfl (lv_at hl 1 rfl) ?_
    refine zi_const hx hb dX1_setRates_1 ?_
    refine zi_bipush hx hb dX1_setRates_2 (by decide) ?_
    refine zcallv (va_runS (As := [.int (iI (a)), .int (iI (1)), .int (iI (50))]) (rest := []) ⟨hx, hb, hml, hown, hts⟩ (c_X1_requireRange_ok l D cy A ad _ (a) (1) (50) (by omega) (by first | decide | (constructor <;> omega)) (by first | decide | (constructor <;> omega))) (va_cwS 3 hts gX1_setRates_X1_requireRange rfl rfl rfl (by decide +kernel) ⟨(Nat.le_of_ble_eq_true rfl), (Nat.le_of_ble_eq_true rfl)⟩) (zPS hE hS) rfl rfl hl.1 rfl (lv_room (Nat.le_of_ble_eq_true rfl)) dX1_setRates_4 ⟨(Nat.le_of_ble_eq_true rfl), (Nat.le_of_ble_eq_true rfl)⟩) hS (fun H1 locs hq hz1 hk1 hS => ?_)
    replace hq := hq.symm
    subst hq
    refine lv_iload_n hx hb dX1_setRates_7 rfl (lv_at hl 2 rfl) ?_
    refine zi_const hx hb dX1_setRates_8 ?_
    refine zi_bipush hx hb dX1_setRates_9 (by decide) ?_
    exact zxcall (vx_runS (As := [.int (iI (b)), .int (iI (1)), .int (iI (50))]) (rest := []) ⟨hx, hb, hml, hown, hts⟩ (c_x_X1_requireRange l hlf D cy A ad _ (b) (1) (50) (by first | decide | (constructor <;> omega)) (by first | decide | (constructor <;> omega)) (by first | decide | (constructor <;> omega)) (by omega)) (va_cwS 3 hts gX1_setRates_X1_requireRange rfl rfl rfl (by decide +kernel) ⟨(Nat.le_of_ble_eq_true rfl), (Nat.le_of_ble_eq_true rfl)⟩) (zPS hE hS) rfl rfl hl.1 rfl (lv_room (Nat.le_of_ble_eq_true rfl)) dX1_setRates_11 ⟨(Nat.le_of_ble_eq_true rfl), (Nat.le_of_ble_eq_true rfl)⟩) hS htb hlocks

set_option maxHeartbeats 4000000 in
set_option maxRecDepth 100000 in
theorem c_x_X1_setCrew (l : Launch) (hlf : l.stackTraces = false) (D : va_G) (cy : Nat → ClassId) (A : Nat → Prop) (ad : Nat → Nat) (ya : Nat → Nat → Int) (yi : Nat → Int) (pr : Nat → Option PS) (H0 : Heap) (a b : Int) (hw : zW D A ad (yE cy ad ya yi pr) H0) (h1 : zr a) (h2 : zr b) (h0 : ¬ (0 ≤ a ∧ a ≤ 24) ∨ ((0 ≤ a ∧ a ≤ 24) ∧ ¬ (0 ≤ b ∧ b ≤ 24))) : vx_Met l yX1_setCrew wsX1_setCrew ({ frames := 8, cells := 1, slots := 6, locals := 123 }) (zPc D cy A [.ref (ad 0), .int (iI (a)), .int (iI (b))] H0) zN (zX "java/lang/IllegalArgumentException" H0 A) 1 6 A := by
  refine vx_ofW (cc := cX1_setCrew) (maxL := 3) (ret := none) (by decide) rfl ?_
  intro pg en s mt args below meth c s₁ B hml htb hv
  obtain ⟨rfl, hH, hE⟩ := hv
  subst hH
  have hx := B.exec
  have hb := B.bytes
  have hr := B.returns
  have hts := atoms_spec (ws := wsX1_setCrew) B.pre
  have hown : s.vm.findClass RX1 = some mt.cls := findClass_of_methodNamed B.named
  have hlocks := B.notSynchronized
  have hinX1 : ∀ w ∈ u_ws RX1 TX1 9, w ∈ wsX1_setCrew := by decide +kernel
  have hS : va_S A s.heap s.heap [] := va_S.rf
  have hl := lv_entry ([.ref (ad 0), .int (iI (a)), .int (iI (b))]) (n := 3) (Nat.le_of_ble_eq_true rfl)
  rw [lg_entry_eq]
  generalize (lg_sl ([.ref (ad 0), .int (iI (a)), .int (iI (b))]) ++ List.replicate (3 - (lg_sl ([.ref (ad 0), .int (iI (a)), .int (iI (b))])).length) Slot.unset).toArray = ls at hl ⊢
  have hl : lv_has ls 3 [(0, .ref (ad 0)), (1, .int (iI (a))), (2, .int (iI (b)))] := hl
  rcases h0 with h9 | h9
  · refine lv_iload_n hx hb dX1_setCrew_0 rfl (lv_at hl 1 rfl) ?_
    refine zi_const hx hb dX1_setCrew_1 ?_
    refine zi_bipush hx hb dX1_setCrew_2 (by decide) ?_
    exact zxcall (vx_runS (As := [.int (iI (a)), .int (iI (0)), .int (iI (24))]) (rest := []) ⟨hx, hb, hml, hown, hts⟩ (c_x_X1_requireRange l hlf D cy A ad _ (a) (0) (24) (by first | decide | (constructor <;> omega)) (by first | decide | (constructor <;> omega)) (by first | decide | (constructor <;> omega)) (by omega)) (va_cwS 3 hts gX1_setCrew_X1_requireRange rfl rfl rfl (by decide +kernel) ⟨(Nat.le_of_ble_eq_true rfl), (Nat.le_of_ble_eq_true rfl)⟩) (zPS hE hS) rfl rfl hl.1 rfl (lv_room (Nat.le_of_ble_eq_true rfl)) dX1_setCrew_4 ⟨(Nat.le_of_ble_eq_true rfl), (Nat.le_of_ble_eq_true rfl)⟩) hS htb hlocks
  · refine lv_iload_n hx hb dX1_setCrew_0 rfl (lv_at hl 1 rfl) ?_
    refine zi_const hx hb dX1_setCrew_1 ?_
    refine zi_bipush hx hb dX1_setCrew_2 (by decide) ?_
    refine zcallv (va_runS (As := [.int (iI (a)), .int (iI (0)), .int (iI (24))]) (rest := []) ⟨hx, hb, hml, hown, hts⟩ (c_X1_requireRange_ok l D cy A ad _ (a) (0) (24) (by omega) (by first | decide | (constructor <;> omega)) (by first | decide | (constructor <;> omega))) (va_cwS 3 hts gX1_setCrew_X1_requireRange rfl rfl rfl (by decide +kernel) ⟨(Nat.le_of_ble_eq_true rfl), (Nat.le_of_ble_eq_true rfl)⟩) (zPS hE hS) rfl rfl hl.1 rfl (lv_room (Nat.le_of_ble_eq_true rfl)) dX1_setCrew_4 ⟨(Nat.le_of_ble_eq_true rfl), (Nat.le_of_ble_eq_true rfl)⟩) hS (fun H1 locs hq hz1 hk1 hS => ?_)
    replace hq := hq.symm
    subst hq
    refine lv_iload_n hx hb dX1_setCrew_7 rfl (lv_at hl 2 rfl) ?_
    refine zi_const hx hb dX1_setCrew_8 ?_
    refine zi_bipush hx hb dX1_setCrew_9 (by decide) ?_
    exact zxcall (vx_runS (As := [.int (iI (b)), .int (iI (0)), .int (iI (24))]) (rest := []) ⟨hx, hb, hml, hown, hts⟩ (c_x_X1_requireRange l hlf D cy A ad _ (b) (0) (24) (by first | decide | (constructor <;> omega)) (by first | decide | (constructor <;> omega)) (by first | decide | (constructor <;> omega)) (by omega)) (va_cwS 3 hts gX1_setCrew_X1_requireRange rfl rfl rfl (by decide +kernel) ⟨(Nat.le_of_ble_eq_true rfl), (Nat.le_of_ble_eq_true rfl)⟩) (zPS hE hS) rfl rfl hl.1 rfl (lv_room (Nat.le_of_ble_eq_true rfl)) dX1_setCrew_11 ⟨(Nat.le_of_ble_eq_true rfl), (Nat.le_of_ble_eq_true rfl)⟩) hS htb hlocks

set_option maxHeartbeats 4000000 in
set_option maxRecDepth 100000 in
theorem c_x_X1_plan_1 (l : Launch) (hlf : l.stackTraces = false) (D : va_G) (cy : Nat → ClassId) (A : Nat → Prop) (ad : Nat → Nat) (ya : Nat → Nat → Int) (yi : Nat → Int) (pr : Nat → Option PS) (H0 : Heap) (a b d f : Int) (hw : zW D A ad (yE cy ad ya yi pr) H0) (ha : zr a) (hb0 : zr b) (hd : zr d) (hf : zr f) (h1 : ¬ plOK a b d f) : vx_Met l yX1_plan wsX1_plan ({ frames := 9, cells := 1, slots := 6, locals := 146 }) (zPc D cy A [.ref (ad 0), .int (iI (a)), .int (iI (b)), .int (iI (d)), .int (iI (f))] H0) zN (zX "java/lang/IllegalArgumentException" H0 A) 1 6 A := by
  refine vx_ofW (cc := cX1_plan) (maxL := 7) (ret := (some .int)) (by decide) rfl ?_
  intro pg en s mt args below meth c s₁ B hml htb hv
  obtain ⟨rfl, hH, hE⟩ := hv
  subst hH
  have hx := B.exec
  have hb := B.bytes
  have hr := B.returns
  have hts := atoms_spec (ws := wsX1_plan) B.pre
  have hown : s.vm.findClass RX1 = some mt.cls := findClass_of_methodNamed B.named
  have hlocks := B.notSynchronized
  have hinX1 : ∀ w ∈ u_ws RX1 TX1 9, w ∈ wsX1_plan := by decide +kernel
  have hS : va_S A s.heap s.heap [] := va_S.rf
  have hl := lv_entry ([.ref (ad 0), .int (iI (a)), .int (iI (b)), .int (iI (d)), .int (iI (f))]) (n := 7) (Nat.le_of_ble_eq_true rfl)
  rw [lg_entry_eq]
  generalize (lg_sl ([.ref (ad 0), .int (iI (a)), .int (iI (b)), .int (iI (d)), .int (iI (f))]) ++ List.replicate (7 - (lg_sl ([.ref (ad 0), .int (iI (a)), .int (iI (b)), .int (iI (d)), .int (iI (f))])).length) Slot.unset).toArray = ls at hl ⊢
  have hl : lv_has ls 7 [(0, .ref (ad 0)), (1, .int (iI (a))), (2, .int (iI (b))), (3, .int (iI (d))), (4, .int (iI (f)))] := hl
  refine lv_iload_n hx hb dX1_plan_0 rfl (lv_at hl 1 rfl) ?_
  refine lv_iload_n hx hb dX1_plan_1 rfl (lv_at hl 2 rfl) ?_
  refine lv_iload_n hx hb dX1_plan_2 rfl (lv_at hl 3 rfl) ?_
  refine lv_iload hx hb dX1_plan_3 (lv_at hl 4 rfl) ?_
  exact zxcall (vx_runS (As := [.int (iI (a)), .int (iI (b)), .int (iI (d)), .int (iI (f))]) (rest := []) ⟨hx, hb, hml, hown, hts⟩ (c_x_X1_requirePour l hlf D cy A ad _ (a) (b) (d) (f) (by first | decide | (constructor <;> omega)) (by first | decide | (constructor <;> omega)) (by first | decide | (constructor <;> omega)) (by first | decide | (constructor <;> omega)) h1) (va_cwS 4 hts gX1_plan_X1_requirePour rfl rfl rfl (by decide +kernel) ⟨(Nat.le_of_ble_eq_true rfl), (Nat.le_of_ble_eq_true rfl)⟩) (zPS hE hS) rfl rfl hl.1 rfl (lv_room (Nat.le_of_ble_eq_true rfl)) dX1_plan_5 ⟨(Nat.le_of_ble_eq_true rfl), (Nat.le_of_ble_eq_true rfl)⟩) hS htb hlocks

set_option maxHeartbeats 4000000 in
set_option maxRecDepth 100000 in
theorem c_x_X1_earliest (l : Launch) (hlf : l.stackTraces = false) (D : va_G) (cy : Nat → ClassId) (A : Nat → Prop) (ad : Nat → Nat) (ya : Nat → Nat → Int) (yi : Nat → Int) (pr : Nat → Option PS) (H0 : Heap) (a b d f : Int) (hw : zW D A ad (yE cy ad ya yi pr) H0) (ha : zr a) (hb0 : zr b) (hd : zr d) (hf : zr f) (h1 : ¬ plOK a b d f) : vx_Met l yX1_earliest wsX1_earliest ({ frames := 9, cells := 1, slots := 6, locals := 146 }) (zPc D cy A [.ref (ad 0), .int (iI (a)), .int (iI (b)), .int (iI (d)), .int (iI (f))] H0) zN (zX "java/lang/IllegalArgumentException" H0 A) 1 6 A := by
  refine vx_ofW (cc := cX1_earliest) (maxL := 9) (ret := (some .int)) (by decide) rfl ?_
  intro pg en s mt args below meth c s₁ B hml htb hv
  obtain ⟨rfl, hH, hE⟩ := hv
  subst hH
  have hx := B.exec
  have hb := B.bytes
  have hr := B.returns
  have hts := atoms_spec (ws := wsX1_earliest) B.pre
  have hown : s.vm.findClass RX1 = some mt.cls := findClass_of_methodNamed B.named
  have hlocks := B.notSynchronized
  have hinX1 : ∀ w ∈ u_ws RX1 TX1 9, w ∈ wsX1_earliest := by decide +kernel
  have hS : va_S A s.heap s.heap [] := va_S.rf
  have hl := lv_entry ([.ref (ad 0), .int (iI (a)), .int (iI (b)), .int (iI (d)), .int (iI (f))]) (n := 9) (Nat.le_of_ble_eq_true rfl)
  rw [lg_entry_eq]
  generalize (lg_sl ([.ref (ad 0), .int (iI (a)), .int (iI (b)), .int (iI (d)), .int (iI (f))]) ++ List.replicate (9 - (lg_sl ([.ref (ad 0), .int (iI (a)), .int (iI (b)), .int (iI (d)), .int (iI (f))])).length) Slot.unset).toArray = ls at hl ⊢
  have hl : lv_has ls 9 [(0, .ref (ad 0)), (1, .int (iI (a))), (2, .int (iI (b))), (3, .int (iI (d))), (4, .int (iI (f)))] := hl
  refine lv_iload_n hx hb dX1_earliest_0 rfl (lv_at hl 1 rfl) ?_
  refine lv_iload_n hx hb dX1_earliest_1 rfl (lv_at hl 2 rfl) ?_
  refine lv_iload_n hx hb dX1_earliest_2 rfl (lv_at hl 3 rfl) ?_
  refine lv_iload hx hb dX1_earliest_3 (lv_at hl 4 rfl) ?_
  exact zxcall (vx_runS (As := [.int (iI (a)), .int (iI (b)), .int (iI (d)), .int (iI (f))]) (rest := []) ⟨hx, hb, hml, hown, hts⟩ (c_x_X1_requirePour l hlf D cy A ad _ (a) (b) (d) (f) (by first | decide | (constructor <;> omega)) (by first | decide | (constructor <;> omega)) (by first | decide | (constructor <;> omega)) (by first | decide | (constructor <;> omega)) h1) (va_cwS 4 hts gX1_earliest_X1_requirePour rfl rfl rfl (by decide +kernel) ⟨(Nat.le_of_ble_eq_true rfl), (Nat.le_of_ble_eq_true rfl)⟩) (zPS hE hS) rfl rfl hl.1 rfl (lv_room (Nat.le_of_ble_eq_true rfl)) dX1_earliest_5 ⟨(Nat.le_of_ble_eq_true rfl), (Nat.le_of_ble_eq_true rfl)⟩) hS htb hlocks

set_option maxHeartbeats 4000000 in
set_option maxRecDepth 100000 in
theorem c_x_X1_endOf (l : Launch) (hlf : l.stackTraces = false) (D : va_G) (cy : Nat → ClassId) (A : Nat → Prop) (ad : Nat → Nat) (ya : Nat → Nat → Int) (yi : Nat → Int) (pr : Nat → Option PS) (H0 : Heap) (v : Int) (hw : zW D A ad (yE cy ad ya yi pr) H0) (h1 : zr v) (hbad : ∀ k : Nat, v = (k : Int) → k < 10 → pr k = none) : vx_Met l yX1_endOf wsX1_endOf ({ frames := 7, cells := 1, slots := 6, locals := 103 }) (zPc D cy A [.ref (ad 0), .int (iI (v))] H0) zN (zX "java/util/NoSuchElementException" H0 A) 1 6 A := by
  refine vx_ofW (cc := cX1_endOf) (maxL := 3) (ret := (some .int)) (by decide) rfl ?_
  intro pg en s mt args below meth c s₁ B hml htb hv
  obtain ⟨rfl, hH, hE⟩ := hv
  subst hH
  have hx := B.exec
  have hb := B.bytes
  have hr := B.returns
  have hts := atoms_spec (ws := wsX1_endOf) B.pre
  have hown : s.vm.findClass RX1 = some mt.cls := findClass_of_methodNamed B.named
  have hlocks := B.notSynchronized
  have hinX0 : ∀ w ∈ u_ws RX0 TX0 13, w ∈ wsX1_endOf := by decide +kernel
  have hS : va_S A s.heap s.heap [] := va_S.rf
  have hl := lv_entry ([.ref (ad 0), .int (iI (v))]) (n := 3) (Nat.le_of_ble_eq_true rfl)
  rw [lg_entry_eq]
  generalize (lg_sl ([.ref (ad 0), .int (iI (v))]) ++ List.replicate (3 - (lg_sl ([.ref (ad 0), .int (iI (v))])).length) Slot.unset).toArray = ls at hl ⊢
  have hl : lv_has ls 3 [(0, .ref (ad 0)), (1, .int (iI (v)))] := hl
  refine lv_aload_n hx hb dX1_endOf_0 rfl (lv_at hl 0 rfl) ?_
  refine lv_iload_n hx hb dX1_endOf_1 rfl (lv_at hl 1 rfl) ?_
  exact zxcall (vx_runV (As := [.int (iI (v))]) (rest := []) ⟨hx, hb, hml, hown, hts⟩ (c_x_X1_existing l hlf D cy A ad ya yi pr _ (v) hw (by first | decide | (constructor <;> omega)) hbad) (cwV 1 hts gX1_endOf_X1_existing rfl rfl rfl (by decide +kernel) ⟨(Nat.le_of_ble_eq_true rfl), (Nat.le_of_ble_eq_true rfl)⟩) (zPV hE hS hw (ci := 1) (k0 := 0) rfl yE_0) rfl rfl hl.1 rfl (lv_room (Nat.le_of_ble_eq_true rfl)) dX1_endOf_2 ⟨(Nat.le_of_ble_eq_true rfl), (Nat.le_of_ble_eq_true rfl)⟩) hS htb hlocks

set_option maxHeartbeats 4000000 in
set_option maxRecDepth 100000 in
theorem c_x_X1_coldJoints (l : Launch) (hlf : l.stackTraces = false) (D : va_G) (cy : Nat → ClassId) (A : Nat → Prop) (ad : Nat → Nat) (ya : Nat → Nat → Int) (yi : Nat → Int) (pr : Nat → Option PS) (H0 : Heap) (v : Int) (hw : zW D A ad (yE cy ad ya yi pr) H0) (h1 : zr v) (hbad : ∀ k : Nat, v = (k : Int) → k < 10 → pr k = none) : vx_Met l yX1_coldJoints wsX1_coldJoints ({ frames := 7, cells := 1, slots := 6, locals := 103 }) (zPc D cy A [.ref (ad 0), .int (iI (v))] H0) zN (zX "java/util/NoSuchElementException" H0 A) 1 6 A := by
  refine vx_ofW (cc := cX1_coldJoints) (maxL := 8) (ret := (some .int)) (by decide) rfl ?_
  intro pg en s mt args below meth c s₁ B hml htb hv
  obtain ⟨rfl, hH, hE⟩ := hv
  subst hH
  have hx := B.exec
  have hb := B.bytes
  have hr := B.returns
  have hts := atoms_spec (ws := wsX1_coldJoints) B.pre
  have hown : s.vm.findClass RX1 = some mt.cls := findClass_of_methodNamed B.named
  have hlocks := B.notSynchronized
  have hinX0 : ∀ w ∈ u_ws RX0 TX0 13, w ∈ wsX1_coldJoints := by decide +kernel
  have hS : va_S A s.heap s.heap [] := va_S.rf
  have hl := lv_entry ([.ref (ad 0), .int (iI (v))]) (n := 8) (Nat.le_of_ble_eq_true rfl)
  rw [lg_entry_eq]
  generalize (lg_sl ([.ref (ad 0), .int (iI (v))]) ++ List.replicate (8 - (lg_sl ([.ref (ad 0), .int (iI (v))])).length) Slot.unset).toArray = ls at hl ⊢
  have hl : lv_has ls 8 [(0, .ref (ad 0)), (1, .int (iI (v)))] := hl
  refine lv_aload_n hx hb dX1_coldJoints_0 rfl (lv_at hl 0 rfl) ?_
  refine lv_iload_n hx hb dX1_coldJoints_1 rfl (lv_at hl 1 rfl) ?_
  exact zxcall (vx_runV (As := [.int (iI (v))]) (rest := []) ⟨hx, hb, hml, hown, hts⟩ (c_x_X1_existing l hlf D cy A ad ya yi pr _ (v) hw (by first | decide | (constructor <;> omega)) hbad) (cwV 1 hts gX1_coldJoints_X1_existing rfl rfl rfl (by decide +kernel) ⟨(Nat.le_of_ble_eq_true rfl), (Nat.le_of_ble_eq_true rfl)⟩) (zPV hE hS hw (ci := 1) (k0 := 0) rfl yE_0) rfl rfl hl.1 rfl (lv_room (Nat.le_of_ble_eq_true rfl)) dX1_coldJoints_2 ⟨(Nat.le_of_ble_eq_true rfl), (Nat.le_of_ble_eq_true rfl)⟩) hS htb hlocks

set_option maxHeartbeats 4000000 in
set_option maxRecDepth 100000 in
theorem c_x_X1_struck (l : Launch) (hlf : l.stackTraces = false) (D : va_G) (cy : Nat → ClassId) (A : Nat → Prop) (ad : Nat → Nat) (ya : Nat → Nat → Int) (yi : Nat → Int) (pr : Nat → Option PS) (H0 : Heap) (v : Int) (hw : zW D A ad (yE cy ad ya yi pr) H0) (h1 : zr v) (hbad : ∀ k : Nat, v = (k : Int) → k < 10 → pr k = none) : vx_Met l yX1_struck wsX1_struck ({ frames := 7, cells := 1, slots := 6, locals := 103 }) (zPc D cy A [.ref (ad 0), .int (iI (v))] H0) zN (zX "java/util/NoSuchElementException" H0 A) 1 6 A := by
  refine vx_ofW (cc := cX1_struck) (maxL := 3) (ret := (some .int)) (by decide) rfl ?_
  intro pg en s mt args below meth c s₁ B hml htb hv
  obtain ⟨rfl, hH, hE⟩ := hv
  subst hH
  have hx := B.exec
  have hb := B.bytes
  have hr := B.returns
  have hts := atoms_spec (ws := wsX1_struck) B.pre
  have hown : s.vm.findClass RX1 = some mt.cls := findClass_of_methodNamed B.named
  have hlocks := B.notSynchronized
  have hinX0 : ∀ w ∈ u_ws RX0 TX0 13, w ∈ wsX1_struck := by decide +kernel
  have hS : va_S A s.heap s.heap [] := va_S.rf
  have hl := lv_entry ([.ref (ad 0), .int (iI (v))]) (n := 3) (Nat.le_of_ble_eq_true rfl)
  rw [lg_entry_eq]
  generalize (lg_sl ([.ref (ad 0), .int (iI (v))]) ++ List.replicate (3 - (lg_sl ([.ref (ad 0), .int (iI (v))])).length) Slot.unset).toArray = ls at hl ⊢
  have hl : lv_has ls 3 [(0, .ref (ad 0)), (1, .int (iI (v)))] := hl
  refine lv_aload_n hx hb dX1_struck_0 rfl (lv_at hl 0 rfl) ?_
  refine lv_iload_n hx hb dX1_struck_1 rfl (lv_at hl 1 rfl) ?_
  exact zxcall (vx_runV (As := [.int (iI (v))]) (rest := []) ⟨hx, hb, hml, hown, hts⟩ (c_x_X1_existing l hlf D cy A ad ya yi pr _ (v) hw (by first | decide | (constructor <;> omega)) hbad) (cwV 1 hts gX1_struck_X1_existing rfl rfl rfl (by decide +kernel) ⟨(Nat.le_of_ble_eq_true rfl), (Nat.le_of_ble_eq_true rfl)⟩) (zPV hE hS hw (ci := 1) (k0 := 0) rfl yE_0) rfl rfl hl.1 rfl (lv_room (Nat.le_of_ble_eq_true rfl)) dX1_struck_2 ⟨(Nat.le_of_ble_eq_true rfl), (Nat.le_of_ble_eq_true rfl)⟩) hS htb hlocks

set_option maxHeartbeats 4000000 in
set_option maxRecDepth 100000 in
theorem c_x_X1_freeFrom (l : Launch) (hlf : l.stackTraces = false) (D : va_G) (cy : Nat → ClassId) (A : Nat → Prop) (ad : Nat → Nat) (ya : Nat → Nat → Int) (yi : Nat → Int) (pr : Nat → Option PS) (H0 : Heap) (v : Int) (hw : zW D A ad (yE cy ad ya yi pr) H0) (h1 : zr v) (hbad : ∀ k : Nat, v = (k : Int) → k < 10 → pr k = none) : vx_Met l yX1_freeFrom wsX1_freeFrom ({ frames := 7, cells := 1, slots := 6, locals := 103 }) (zPc D cy A [.ref (ad 0), .int (iI (v))] H0) zN (zX "java/util/NoSuchElementException" H0 A) 1 6 A := by
  refine vx_ofW (cc := cX1_freeFrom) (maxL := 3) (ret := (some .int)) (by decide) rfl ?_
  intro pg en s mt args below meth c s₁ B hml htb hv
  obtain ⟨rfl, hH, hE⟩ := hv
  subst hH
  have hx := B.exec
  have hb := B.bytes
  have hr := B.returns
  have hts := atoms_spec (ws := wsX1_freeFrom) B.pre
  have hown : s.vm.findClass RX1 = some mt.cls := findClass_of_methodNamed B.named
  have hlocks := B.notSynchronized
  have hinX0 : ∀ w ∈ u_ws RX0 TX0 13, w ∈ wsX1_freeFrom := by decide +kernel
  have hS : va_S A s.heap s.heap [] := va_S.rf
  have hl := lv_entry ([.ref (ad 0), .int (iI (v))]) (n := 3) (Nat.le_of_ble_eq_true rfl)
  rw [lg_entry_eq]
  generalize (lg_sl ([.ref (ad 0), .int (iI (v))]) ++ List.replicate (3 - (lg_sl ([.ref (ad 0), .int (iI (v))])).length) Slot.unset).toArray = ls at hl ⊢
  have hl : lv_has ls 3 [(0, .ref (ad 0)), (1, .int (iI (v)))] := hl
  refine lv_aload_n hx hb dX1_freeFrom_0 rfl (lv_at hl 0 rfl) ?_
  refine lv_iload_n hx hb dX1_freeFrom_1 rfl (lv_at hl 1 rfl) ?_
  exact zxcall (vx_runV (As := [.int (iI (v))]) (rest := []) ⟨hx, hb, hml, hown, hts⟩ (c_x_X1_existing l hlf D cy A ad ya yi pr _ (v) hw (by first | decide | (constructor <;> omega)) hbad) (cwV 1 hts gX1_freeFrom_X1_existing rfl rfl rfl (by decide +kernel) ⟨(Nat.le_of_ble_eq_true rfl), (Nat.le_of_ble_eq_true rfl)⟩) (zPV hE hS hw (ci := 1) (k0 := 0) rfl yE_0) rfl rfl hl.1 rfl (lv_room (Nat.le_of_ble_eq_true rfl)) dX1_freeFrom_2 ⟨(Nat.le_of_ble_eq_true rfl), (Nat.le_of_ble_eq_true rfl)⟩) hS htb hlocks

set_option maxHeartbeats 4000000 in
set_option maxRecDepth 100000 in
theorem c_x_X1_panelsOf (l : Launch) (hlf : l.stackTraces = false) (D : va_G) (cy : Nat → ClassId) (A : Nat → Prop) (ad : Nat → Nat) (ya : Nat → Nat → Int) (yi : Nat → Int) (pr : Nat → Option PS) (H0 : Heap) (v : Int) (hw : zW D A ad (yE cy ad ya yi pr) H0) (h1 : zr v) (hbad : ∀ k : Nat, v = (k : Int) → k < 10 → pr k = none) : vx_Met l yX1_panelsOf wsX1_panelsOf ({ frames := 7, cells := 1, slots := 6, locals := 103 }) (zPc D cy A [.ref (ad 0), .int (iI (v))] H0) zN (zX "java/util/NoSuchElementException" H0 A) 1 6 A := by
  refine vx_ofW (cc := cX1_panelsOf) (maxL := 3) (ret := (some .int)) (by decide) rfl ?_
  intro pg en s mt args below meth c s₁ B hml htb hv
  obtain ⟨rfl, hH, hE⟩ := hv
  subst hH
  have hx := B.exec
  have hb := B.bytes
  have hr := B.returns
  have hts := atoms_spec (ws := wsX1_panelsOf) B.pre
  have hown : s.vm.findClass RX1 = some mt.cls := findClass_of_methodNamed B.named
  have hlocks := B.notSynchronized
  have hinX0 : ∀ w ∈ u_ws RX0 TX0 13, w ∈ wsX1_panelsOf := by decide +kernel
  have hS : va_S A s.heap s.heap [] := va_S.rf
  have hl := lv_entry ([.ref (ad 0), .int (iI (v))]) (n := 3) (Nat.le_of_ble_eq_true rfl)
  rw [lg_entry_eq]
  generalize (lg_sl ([.ref (ad 0), .int (iI (v))]) ++ List.replicate (3 - (lg_sl ([.ref (ad 0), .int (iI (v))])).length) Slot.unset).toArray = ls at hl ⊢
  have hl : lv_has ls 3 [(0, .ref (ad 0)), (1, .int (iI (v)))] := hl
  refine lv_aload_n hx hb dX1_panelsOf_0 rfl (lv_at hl 0 rfl) ?_
  refine lv_iload_n hx hb dX1_panelsOf_1 rfl (lv_at hl 1 rfl) ?_
  exact zxcall (vx_runV (As := [.int (iI (v))]) (rest := []) ⟨hx, hb, hml, hown, hts⟩ (c_x_X1_existing l hlf D cy A ad ya yi pr _ (v) hw (by first | decide | (constructor <;> omega)) hbad) (cwV 1 hts gX1_panelsOf_X1_existing rfl rfl rfl (by decide +kernel) ⟨(Nat.le_of_ble_eq_true rfl), (Nat.le_of_ble_eq_true rfl)⟩) (zPV hE hS hw (ci := 1) (k0 := 0) rfl yE_0) rfl rfl hl.1 rfl (lv_room (Nat.le_of_ble_eq_true rfl)) dX1_panelsOf_2 ⟨(Nat.le_of_ble_eq_true rfl), (Nat.le_of_ble_eq_true rfl)⟩) hS htb hlocks

set_option maxHeartbeats 4000000 in
set_option maxRecDepth 100000 in
theorem c_x_X1_cancel (l : Launch) (hlf : l.stackTraces = false) (D : va_G) (cy : Nat → ClassId) (A : Nat → Prop) (ad : Nat → Nat) (ya : Nat → Nat → Int) (yi : Nat → Int) (pr : Nat → Option PS) (H0 : Heap) (v : Int) (hw : zW D A ad (yE cy ad ya yi pr) H0) (h1 : zr v) (hbad : ∀ k : Nat, v = (k : Int) → k < 10 → pr k = none) : vx_Met l yX1_cancel wsX1_cancel ({ frames := 7, cells := 1, slots := 6, locals := 103 }) (zPc D cy A [.ref (ad 0), .int (iI (v))] H0) zN (zX "java/util/NoSuchElementException" H0 A) 1 6 A := by
  refine vx_ofW (cc := cX1_cancel) (maxL := 3) (ret := (some .int)) (by decide) rfl ?_
  intro pg en s mt args below meth c s₁ B hml htb hv
  obtain ⟨rfl, hH, hE⟩ := hv
  subst hH
  have hx := B.exec
  have hb := B.bytes
  have hr := B.returns
  have hts := atoms_spec (ws := wsX1_cancel) B.pre
  have hown : s.vm.findClass RX1 = some mt.cls := findClass_of_methodNamed B.named
  have hlocks := B.notSynchronized
  have hinX0 : ∀ w ∈ u_ws RX0 TX0 13, w ∈ wsX1_cancel := by decide +kernel
  have hinX1 : ∀ w ∈ u_ws RX1 TX1 9, w ∈ wsX1_cancel := by decide +kernel
  have hS : va_S A s.heap s.heap [] := va_S.rf
  have hl := lv_entry ([.ref (ad 0), .int (iI (v))]) (n := 3) (Nat.le_of_ble_eq_true rfl)
  rw [lg_entry_eq]
  generalize (lg_sl ([.ref (ad 0), .int (iI (v))]) ++ List.replicate (3 - (lg_sl ([.ref (ad 0), .int (iI (v))])).length) Slot.unset).toArray = ls at hl ⊢
  have hl : lv_has ls 3 [(0, .ref (ad 0)), (1, .int (iI (v)))] := hl
  refine lv_aload_n hx hb dX1_cancel_0 rfl (lv_at hl 0 rfl) ?_
  refine lv_iload_n hx hb dX1_cancel_1 rfl (lv_at hl 1 rfl) ?_
  exact zxcall (vx_runV (As := [.int (iI (v))]) (rest := []) ⟨hx, hb, hml, hown, hts⟩ (c_x_X1_existing l hlf D cy A ad ya yi pr _ (v) hw (by first | decide | (constructor <;> omega)) hbad) (cwV 1 hts gX1_cancel_X1_existing rfl rfl rfl (by decide +kernel) ⟨(Nat.le_of_ble_eq_true rfl), (Nat.le_of_ble_eq_true rfl)⟩) (zPV hE hS hw (ci := 1) (k0 := 0) rfl yE_0) rfl rfl hl.1 rfl (lv_room (Nat.le_of_ble_eq_true rfl)) dX1_cancel_2 ⟨(Nat.le_of_ble_eq_true rfl), (Nat.le_of_ble_eq_true rfl)⟩) hS htb hlocks

set_option maxHeartbeats 4000000 in
set_option maxRecDepth 100000 in
theorem c_x_X1_move_1 (l : Launch) (hlf : l.stackTraces = false) (D : va_G) (cy : Nat → ClassId) (A : Nat → Prop) (ad : Nat → Nat) (ya : Nat → Nat → Int) (yi : Nat → Int) (pr : Nat → Option PS) (H0 : Heap) (v a : Int) (hw : zW D A ad (yE cy ad ya yi pr) H0) (h1 : zr v) (h2 : zr a) (hbad : ∀ k : Nat, v = (k : Int) → k < 10 → pr k = none) : vx_Met l yX1_move wsX1_move ({ frames := 7, cells := 1, slots := 6, locals := 103 }) (zPc D cy A [.ref (ad 0), .int (iI (v)), .int (iI (a))] H0) zN (zX "java/util/NoSuchElementException" H0 A) 1 6 A := by
  refine vx_ofW (cc := cX1_move) (maxL := 5) (ret := (some .int)) (by decide) rfl ?_
  intro pg en s mt args below meth c s₁ B hml htb hv
  obtain ⟨rfl, hH, hE⟩ := hv
  subst hH
  have hx := B.exec
  have hb := B.bytes
  have hr := B.returns
  have hts := atoms_spec (ws := wsX1_move) B.pre
  have hown : s.vm.findClass RX1 = some mt.cls := findClass_of_methodNamed B.named
  have hlocks := B.notSynchronized
  have hinX0 : ∀ w ∈ u_ws RX0 TX0 13, w ∈ wsX1_move := by decide +kernel
  have hS : va_S A s.heap s.heap [] := va_S.rf
  have hl := lv_entry ([.ref (ad 0), .int (iI (v)), .int (iI (a))]) (n := 5) (Nat.le_of_ble_eq_true rfl)
  rw [lg_entry_eq]
  generalize (lg_sl ([.ref (ad 0), .int (iI (v)), .int (iI (a))]) ++ List.replicate (5 - (lg_sl ([.ref (ad 0), .int (iI (v)), .int (iI (a))])).length) Slot.unset).toArray = ls at hl ⊢
  have hl : lv_has ls 5 [(0, .ref (ad 0)), (1, .int (iI (v))), (2, .int (iI (a)))] := hl
  refine lv_aload_n hx hb dX1_move_0 rfl (lv_at hl 0 rfl) ?_
  refine lv_iload_n hx hb dX1_move_1 rfl (lv_at hl 1 rfl) ?_
  exact zxcall (vx_runV (As := [.int (iI (v))]) (rest := []) ⟨hx, hb, hml, hown, hts⟩ (c_x_X1_existing l hlf D cy A ad ya yi pr _ (v) hw (by first | decide | (constructor <;> omega)) hbad) (cwV 1 hts gX1_move_X1_existing rfl rfl rfl (by decide +kernel) ⟨(Nat.le_of_ble_eq_true rfl), (Nat.le_of_ble_eq_true rfl)⟩) (zPV hE hS hw (ci := 1) (k0 := 0) rfl yE_0) rfl rfl hl.1 rfl (lv_room (Nat.le_of_ble_eq_true rfl)) dX1_move_2 ⟨(Nat.le_of_ble_eq_true rfl), (Nat.le_of_ble_eq_true rfl)⟩) hS htb hlocks

set_option maxHeartbeats 4000000 in
set_option maxRecDepth 100000 in
theorem c_x_X1_move_2 (l : Launch) (hlf : l.stackTraces = false) (D : va_G) (cy : Nat → ClassId) (A : Nat → Prop) (ad : Nat → Nat) (ya : Nat → Nat → Int) (yi : Nat → Int) (pr : Nat → Option PS) (H0 : Heap) (i : Nat) (p0 : PS) (a : Int) (hw : zW D A ad (yE cy ad ya yi pr) H0) (hi : i < 10) (hp0 : pr i = some p0) (h2 : zr a) (h0 : ¬ (0 ≤ a ∧ a ≤ 900)) : vx_Met l yX1_move wsX1_move ({ frames := 8, cells := 1, slots := 6, locals := 123 }) (zPc D cy A [.ref (ad 0), .int (iI ((i : Int))), .int (iI (a))] H0) zN (zX "java/lang/IllegalArgumentException" H0 A) 1 6 A := by
  refine vx_ofW (cc := cX1_move) (maxL := 5) (ret := (some .int)) (by decide) rfl ?_
  intro pg en s mt args below meth c s₁ B hml htb hv
  obtain ⟨rfl, hH, hE⟩ := hv
  subst hH
  have hx := B.exec
  have hb := B.bytes
  have hr := B.returns
  have hts := atoms_spec (ws := wsX1_move) B.pre
  have hown : s.vm.findClass RX1 = some mt.cls := findClass_of_methodNamed B.named
  have hlocks := B.notSynchronized
  have hinX0 : ∀ w ∈ u_ws RX0 TX0 13, w ∈ wsX1_move := by decide +kernel
  have hS : va_S A s.heap s.heap [] := va_S.rf
  have hl := lv_entry ([.ref (ad 0), .int (iI ((i : Int))), .int (iI (a))]) (n := 5) (Nat.le_of_ble_eq_true rfl)
  rw [lg_entry_eq]
  generalize (lg_sl ([.ref (ad 0), .int (iI ((i : Int))), .int (iI (a))]) ++ List.replicate (5 - (lg_sl ([.ref (ad 0), .int (iI ((i : Int))), .int (iI (a))])).length) Slot.unset).toArray = ls at hl ⊢
  have hl : lv_has ls 5 [(0, .ref (ad 0)), (1, .int (iI ((i : Int)))), (2, .int (iI (a)))] := hl
  refine lv_aload_n hx hb dX1_move_0 rfl (lv_at hl 0 rfl) ?_
  refine lv_iload_n hx hb dX1_move_1 rfl (lv_at hl 1 rfl) ?_
  refine zcallq (va_runV (As := [.int (iI ((i : Int)))]) (rest := []) ⟨hx, hb, hml, hown, hts⟩ (c_X1_existing_ok l D cy A ad ya yi pr _ i p0 hw (by omega) hp0) (cwV 1 hts gX1_move_X1_existing rfl rfl rfl (by decide +kernel) ⟨(Nat.le_of_ble_eq_true rfl), (Nat.le_of_ble_eq_true rfl)⟩) (zPV hE hS hw (ci := 1) (k0 := 0) rfl yE_0) rfl rfl hl.1 rfl (lv_room (Nat.le_of_ble_eq_true rfl)) dX1_move_2 ⟨(Nat.le_of_ble_eq_true rfl), (Nat.le_of_ble_eq_true rfl)⟩) hS (fun z_2 H1 locs hq hz1 hk1 hS => ?_)
  obtain ⟨hqe, hv_2⟩ := hq
  replace hqe := hqe.symm
  subst hqe
  subst hv_2
  rw [zrf]
  refine lv_astore_n (lv' := [(3, .ref (ad (10 + 3 * i))), (0, .ref (ad 0)), (1, .int (iI ((i : Int)))), (2, .int (iI (a)))]) hx hb dX1_move_5 rfl hl (by decide) rfl (fun ls hl => ?_)
  refine lv_iload_n hx hb dX1_move_6 rfl (lv_at hl 3 rfl) ?_
  refine zi_const hx hb dX1_move_7 ?_
  refine zi_sipush hx hb dX1_move_8 (by decide) ?_
  exact zxcall (vx_runS (As := [.int (iI (a)), .int (iI (0)), .int (iI (900))]) (rest := []) ⟨hx, hb, hml, hown, hts⟩ (c_x_X1_requireRange l hlf D cy A ad _ (a) (0) (900) (by first | decide | (constructor <;> omega)) (by first | decide | (constructor <;> omega)) (by first | decide | (constructor <;> omega)) (by omega)) (va_cwS 3 hts gX1_move_X1_requireRange rfl rfl rfl (by decide +kernel) ⟨(Nat.le_of_ble_eq_true rfl), (Nat.le_of_ble_eq_true rfl)⟩) (zPS hE hS) rfl rfl hl.1 rfl (lv_room (Nat.le_of_ble_eq_true rfl)) dX1_move_11 ⟨(Nat.le_of_ble_eq_true rfl), (Nat.le_of_ble_eq_true rfl)⟩) hS htb hlocks

set_option maxHeartbeats 4000000 in
set_option maxRecDepth 100000 in
theorem c_x_X1_delay_1 (l : Launch) (hlf : l.stackTraces = false) (D : va_G) (cy : Nat → ClassId) (A : Nat → Prop) (ad : Nat → Nat) (ya : Nat → Nat → Int) (yi : Nat → Int) (pr : Nat → Option PS) (H0 : Heap) (v a b : Int) (hw : zW D A ad (yE cy ad ya yi pr) H0) (h1 : zr v) (h2 : zr a) (h3 : zr b) (hbad : ∀ k : Nat, v = (k : Int) → k < 10 → pr k = none) : vx_Met l yX1_delay wsX1_delay ({ frames := 7, cells := 1, slots := 6, locals := 103 }) (zPc D cy A [.ref (ad 0), .int (iI (v)), .int (iI (a)), .int (iI (b))] H0) zN (zX "java/util/NoSuchElementException" H0 A) 1 6 A := by
  refine vx_ofW (cc := cX1_delay) (maxL := 5) (ret := (some .int)) (by decide) rfl ?_
  intro pg en s mt args below meth c s₁ B hml htb hv
  obtain ⟨rfl, hH, hE⟩ := hv
  subst hH
  have hx := B.exec
  have hb := B.bytes
  have hr := B.returns
  have hts := atoms_spec (ws := wsX1_delay) B.pre
  have hown : s.vm.findClass RX1 = some mt.cls := findClass_of_methodNamed B.named
  have hlocks := B.notSynchronized
  have hinX0 : ∀ w ∈ u_ws RX0 TX0 13, w ∈ wsX1_delay := by decide +kernel
  have hS : va_S A s.heap s.heap [] := va_S.rf
  have hl := lv_entry ([.ref (ad 0), .int (iI (v)), .int (iI (a)), .int (iI (b))]) (n := 5) (Nat.le_of_ble_eq_true rfl)
  rw [lg_entry_eq]
  generalize (lg_sl ([.ref (ad 0), .int (iI (v)), .int (iI (a)), .int (iI (b))]) ++ List.replicate (5 - (lg_sl ([.ref (ad 0), .int (iI (v)), .int (iI (a)), .int (iI (b))])).length) Slot.unset).toArray = ls at hl ⊢
  have hl : lv_has ls 5 [(0, .ref (ad 0)), (1, .int (iI (v))), (2, .int (iI (a))), (3, .int (iI (b)))] := hl
  refine lv_aload_n hx hb dX1_delay_0 rfl (lv_at hl 0 rfl) ?_
  refine lv_iload_n hx hb dX1_delay_1 rfl (lv_at hl 1 rfl) ?_
  exact zxcall (vx_runV (As := [.int (iI (v))]) (rest := []) ⟨hx, hb, hml, hown, hts⟩ (c_x_X1_existing l hlf D cy A ad ya yi pr _ (v) hw (by first | decide | (constructor <;> omega)) hbad) (cwV 1 hts gX1_delay_X1_existing rfl rfl rfl (by decide +kernel) ⟨(Nat.le_of_ble_eq_true rfl), (Nat.le_of_ble_eq_true rfl)⟩) (zPV hE hS hw (ci := 1) (k0 := 0) rfl yE_0) rfl rfl hl.1 rfl (lv_room (Nat.le_of_ble_eq_true rfl)) dX1_delay_2 ⟨(Nat.le_of_ble_eq_true rfl), (Nat.le_of_ble_eq_true rfl)⟩) hS htb hlocks

set_option maxHeartbeats 4000000 in
set_option maxRecDepth 100000 in
theorem c_x_X1_delay_2 (l : Launch) (hlf : l.stackTraces = false) (D : va_G) (cy : Nat → ClassId) (A : Nat → Prop) (ad : Nat → Nat) (ya : Nat → Nat → Int) (yi : Nat → Int) (pr : Nat → Option PS) (H0 : Heap) (i : Nat) (p0 : PS) (a b : Int) (hw : zW D A ad (yE cy ad ya yi pr) H0) (hi : i < 10) (hp0 : pr i = some p0) (hpb : pB p0) (h2 : zr a) (h3 : zr b) (h0 : ¬ (0 ≤ a ∧ a ≤ p0.1 0 - 1) ∨ ((0 ≤ a ∧ a ≤ p0.1 0 - 1) ∧ ¬ (1 ≤ b ∧ b ≤ 9))) : vx_Met l yX1_delay wsX1_delay ({ frames := 8, cells := 1, slots := 6, locals := 123 }) (zPc D cy A [.ref (ad 0), .int (iI ((i : Int))), .int (iI (a)), .int (iI (b))] H0) zN (zX "java/lang/IllegalArgumentException" H0 A) 1 6 A := by
  refine vx_ofW (cc := cX1_delay) (maxL := 5) (ret := (some .int)) (by decide) rfl ?_
  intro pg en s mt args below meth c s₁ B hml htb hv
  obtain ⟨rfl, hH, hE⟩ := hv
  subst hH
  have hx := B.exec
  have hb := B.bytes
  have hr := B.returns
  have hts := atoms_spec (ws := wsX1_delay) B.pre
  have hown : s.vm.findClass RX1 = some mt.cls := findClass_of_methodNamed B.named
  have hlocks := B.notSynchronized
  have hinX0 : ∀ w ∈ u_ws RX0 TX0 13, w ∈ wsX1_delay := by decide +kernel
  have hS : va_S A s.heap s.heap [] := va_S.rf
  have hl := lv_entry ([.ref (ad 0), .int (iI ((i : Int))), .int (iI (a)), .int (iI (b))]) (n := 5) (Nat.le_of_ble_eq_true rfl)
  rw [lg_entry_eq]
  generalize (lg_sl ([.ref (ad 0), .int (iI ((i : Int))), .int (iI (a)), .int (iI (b))]) ++ List.replicate (5 - (lg_sl ([.ref (ad 0), .int (iI ((i : Int))), .int (iI (a)), .int (iI (b))])).length) Slot.unset).toArray = ls at hl ⊢
  have hl : lv_has ls 5 [(0, .ref (ad 0)), (1, .int (iI ((i : Int)))), (2, .int (iI (a))), (3, .int (iI (b)))] := hl
  obtain ⟨q1, q2, q3, q4, q5, q6⟩ := id hpb
  rcases h0 with h9 | h9
  · refine lv_aload_n hx hb dX1_delay_0 rfl (lv_at hl 0 rfl) ?_
    refine lv_iload_n hx hb dX1_delay_1 rfl (lv_at hl 1 rfl) ?_
    refine zcallq (va_runV (As := [.int (iI ((i : Int)))]) (rest := []) ⟨hx, hb, hml, hown, hts⟩ (c_X1_existing_ok l D cy A ad ya yi pr _ i p0 hw (by omega) hp0) (cwV 1 hts gX1_delay_X1_existing rfl rfl rfl (by decide +kernel) ⟨(Nat.le_of_ble_eq_true rfl), (Nat.le_of_ble_eq_true rfl)⟩) (zPV hE hS hw (ci := 1) (k0 := 0) rfl yE_0) rfl rfl hl.1 rfl (lv_room (Nat.le_of_ble_eq_true rfl)) dX1_delay_2 ⟨(Nat.le_of_ble_eq_true rfl), (Nat.le_of_ble_eq_true rfl)⟩) hS (fun z_2 H1 locs hq hz1 hk1 hS => ?_)
    obtain ⟨hqe, hv_2⟩ := hq
    replace hqe := hqe.symm
    subst hqe
    subst hv_2
    rw [zrf]
    refine lv_astore (lv' := [(4, .ref (ad (10 + 3 * i))), (0, .ref (ad 0)), (1, .int (iI ((i : Int)))), (2, .int (iI (a))), (3, .int (iI (b)))]) hx hb dX1_delay_5 hl (by decide) rfl (fun ls hl => ?_)
    refine lv_iload_n hx hb dX1_delay_7 rfl (lv_at hl 3 rfl) ?_
    refine zi_const hx hb dX1_delay_8 ?_
    refine lv_aload hx hb dX1_delay_9 (lv_at hl 0 rfl) ?_
    refine zgetN (own := RX1) (C := RX0) (T := TX0) (N := 13) (index := 110) (host := RX1) hx hb hts hinX0 hown hE hw (10 + 3 * i) (yE_p (by omega) hp0) rfl 0 (by decide) (by decide +kernel) rfl dX1_delay_11 ?_
    refine zi_const hx hb dX1_delay_14 ?_
    refine zi_sub hx hb dX1_delay_15 ?_
    exact zxcall (vx_runS (As := [.int (iI (a)), .int (iI (0)), .int (iI ((p0.1 0) - 1))]) (rest := []) ⟨hx, hb, hml, hown, hts⟩ (c_x_X1_requireRange l hlf D cy A ad _ (a) (0) ((p0.1 0) - 1) (by first | decide | (constructor <;> omega)) (by first | decide | (constructor <;> omega)) (by first | decide | (constructor <;> omega)) (by omega)) (va_cwS 3 hts gX1_delay_X1_requireRange rfl rfl rfl (by decide +kernel) ⟨(Nat.le_of_ble_eq_true rfl), (Nat.le_of_ble_eq_true rfl)⟩) (zPS hE hS) rfl rfl hl.1 rfl (lv_room (Nat.le_of_ble_eq_true rfl)) dX1_delay_16 ⟨(Nat.le_of_ble_eq_true rfl), (Nat.le_of_ble_eq_true rfl)⟩) hS htb hlocks
  · refine lv_aload_n hx hb dX1_delay_0 rfl (lv_at hl 0 rfl) ?_
    refine lv_iload_n hx hb dX1_delay_1 rfl (lv_at hl 1 rfl) ?_
    refine zcallq (va_runV (As := [.int (iI ((i : Int)))]) (rest := []) ⟨hx, hb, hml, hown, hts⟩ (c_X1_existing_ok l D cy A ad ya yi pr _ i p0 hw (by omega) hp0) (cwV 1 hts gX1_delay_X1_existing rfl rfl rfl (by decide +kernel) ⟨(Nat.le_of_ble_eq_true rfl), (Nat.le_of_ble_eq_true rfl)⟩) (zPV hE hS hw (ci := 1) (k0 := 0) rfl yE_0) rfl rfl hl.1 rfl (lv_room (Nat.le_of_ble_eq_true rfl)) dX1_delay_2 ⟨(Nat.le_of_ble_eq_true rfl), (Nat.le_of_ble_eq_true rfl)⟩) hS (fun z_2 H1 locs hq hz1 hk1 hS => ?_)
    obtain ⟨hqe, hv_2⟩ := hq
    replace hqe := hqe.symm
    subst hqe
    subst hv_2
    rw [zrf]
    refine lv_astore (lv' := [(4, .ref (ad (10 + 3 * i))), (0, .ref (ad 0)), (1, .int (iI ((i : Int)))), (2, .int (iI (a))), (3, .int (iI (b)))]) hx hb dX1_delay_5 hl (by decide) rfl (fun ls hl => ?_)
    refine lv_iload_n hx hb dX1_delay_7 rfl (lv_at hl 3 rfl) ?_
    refine zi_const hx hb dX1_delay_8 ?_
    refine lv_aload hx hb dX1_delay_9 (lv_at hl 0 rfl) ?_
    refine zgetN (own := RX1) (C := RX0) (T := TX0) (N := 13) (index := 110) (host := RX1) hx hb hts hinX0 hown hE hw (10 + 3 * i) (yE_p (by omega) hp0) rfl 0 (by decide) (by decide +kernel) rfl dX1_delay_11 ?_
    refine zi_const hx hb dX1_delay_14 ?_
    refine zi_sub hx hb dX1_delay_15 ?_
    refine zcallv (va_runS (As := [.int (iI (a)), .int (iI (0)), .int (iI ((p0.1 0) - 1))]) (rest := []) ⟨hx, hb, hml, hown, hts⟩ (c_X1_requireRange_ok l D cy A ad _ (a) (0) ((p0.1 0) - 1) (by omega) (by first | decide | (constructor <;> omega)) (by first | decide | (constructor <;> omega))) (va_cwS 3 hts gX1_delay_X1_requireRange rfl rfl rfl (by decide +kernel) ⟨(Nat.le_of_ble_eq_true rfl), (Nat.le_of_ble_eq_true rfl)⟩) (zPS hE hS) rfl rfl hl.1 rfl (lv_room (Nat.le_of_ble_eq_true rfl)) dX1_delay_16 ⟨(Nat.le_of_ble_eq_true rfl), (Nat.le_of_ble_eq_true rfl)⟩) hS (fun H1 locs hq hz1 hk1 hS => ?_)
    replace hq := hq.symm
    subst hq
    refine lv_iload_n hx hb dX1_delay_19 rfl (lv_at hl 4 rfl) ?_
    refine zi_const hx hb dX1_delay_20 ?_
    refine zi_bipush hx hb dX1_delay_21 (by decide) ?_
    exact zxcall (vx_runS (As := [.int (iI (b)), .int (iI (1)), .int (iI (9))]) (rest := []) ⟨hx, hb, hml, hown, hts⟩ (c_x_X1_requireRange l hlf D cy A ad _ (b) (1) (9) (by first | decide | (constructor <;> omega)) (by first | decide | (constructor <;> omega)) (by first | decide | (constructor <;> omega)) (by omega)) (va_cwS 3 hts gX1_delay_X1_requireRange rfl rfl rfl (by decide +kernel) ⟨(Nat.le_of_ble_eq_true rfl), (Nat.le_of_ble_eq_true rfl)⟩) (zPS hE hS) rfl rfl hl.1 rfl (lv_room (Nat.le_of_ble_eq_true rfl)) dX1_delay_23 ⟨(Nat.le_of_ble_eq_true rfl), (Nat.le_of_ble_eq_true rfl)⟩) hS htb hlocks

set_option maxHeartbeats 4000000 in
set_option maxRecDepth 100000 in
theorem c_x_X1_delay_3 (l : Launch) (hlf : l.stackTraces = false) (D : va_G) (cy : Nat → ClassId) (A : Nat → Prop) (ad : Nat → Nat) (ya : Nat → Nat → Int) (yi : Nat → Int) (pr : Nat → Option PS) (H0 : Heap) (i : Nat) (p0 : PS) (a b : Int) (hw : zW D A ad (yE cy ad ya yi pr) H0) (hi : i < 10) (hp0 : pr i = some p0) (hpb : pB p0) (h2 : 0 ≤ a ∧ a ≤ p0.1 0 - 1) (h3 : 1 ≤ b ∧ b ≤ 9) (h0 : p0.1 4 = 4) : vx_Met l yX1_delay wsX1_delay ({ frames := 6, cells := 1, slots := 6, locals := 90 }) (zPc D cy A [.ref (ad 0), .int (iI ((i : Int))), .int (iI (a)), .int (iI (b))] H0) zN (zX "java/lang/IllegalStateException" H0 A) 1 6 A := by
  refine vx_ofW (cc := cX1_delay) (maxL := 5) (ret := (some .int)) (by decide) rfl ?_
  intro pg en s mt args below meth c s₁ B hml htb hv
  obtain ⟨rfl, hH, hE⟩ := hv
  subst hH
  have hx := B.exec
  have hb := B.bytes
  have hr := B.returns
  have hts := atoms_spec (ws := wsX1_delay) B.pre
  have hown : s.vm.findClass RX1 = some mt.cls := findClass_of_methodNamed B.named
  have hlocks := B.notSynchronized
  have hinX0 : ∀ w ∈ u_ws RX0 TX0 13, w ∈ wsX1_delay := by decide +kernel
  have hS : va_S A s.heap s.heap [] := va_S.rf
  have hl := lv_entry ([.ref (ad 0), .int (iI ((i : Int))), .int (iI (a)), .int (iI (b))]) (n := 5) (Nat.le_of_ble_eq_true rfl)
  rw [lg_entry_eq]
  generalize (lg_sl ([.ref (ad 0), .int (iI ((i : Int))), .int (iI (a)), .int (iI (b))]) ++ List.replicate (5 - (lg_sl ([.ref (ad 0), .int (iI ((i : Int))), .int (iI (a)), .int (iI (b))])).length) Slot.unset).toArray = ls at hl ⊢
  have hl : lv_has ls 5 [(0, .ref (ad 0)), (1, .int (iI ((i : Int)))), (2, .int (iI (a))), (3, .int (iI (b)))] := hl
  obtain ⟨q1, q2, q3, q4, q5, q6⟩ := id hpb
  refine lv_aload_n hx hb dX1_delay_0 rfl (lv_at hl 0 rfl) ?_
  refine lv_iload_n hx hb dX1_delay_1 rfl (lv_at hl 1 rfl) ?_
  refine zcallq (va_runV (As := [.int (iI ((i : Int)))]) (rest := []) ⟨hx, hb, hml, hown, hts⟩ (c_X1_existing_ok l D cy A ad ya yi pr _ i p0 hw (by omega) hp0) (cwV 1 hts gX1_delay_X1_existing rfl rfl rfl (by decide +kernel) ⟨(Nat.le_of_ble_eq_true rfl), (Nat.le_of_ble_eq_true rfl)⟩) (zPV hE hS hw (ci := 1) (k0 := 0) rfl yE_0) rfl rfl hl.1 rfl (lv_room (Nat.le_of_ble_eq_true rfl)) dX1_delay_2 ⟨(Nat.le_of_ble_eq_true rfl), (Nat.le_of_ble_eq_true rfl)⟩) hS (fun z_2 H1 locs hq hz1 hk1 hS => ?_)
  obtain ⟨hqe, hv_2⟩ := hq
  replace hqe := hqe.symm
  subst hqe
  subst hv_2
  rw [zrf]
  refine lv_astore (lv' := [(4, .ref (ad (10 + 3 * i))), (0, .ref (ad 0)), (1, .int (iI ((i : Int)))), (2, .int (iI (a))), (3, .int (iI (b)))]) hx hb dX1_delay_5 hl (by decide) rfl (fun ls hl => ?_)
  refine lv_iload_n hx hb dX1_delay_7 rfl (lv_at hl 3 rfl) ?_
  refine zi_const hx hb dX1_delay_8 ?_
  refine lv_aload hx hb dX1_delay_9 (lv_at hl 0 rfl) ?_
  refine zgetN (own := RX1) (C := RX0) (T := TX0) (N := 13) (index := 110) (host := RX1) hx hb hts hinX0 hown hE hw (10 + 3 * i) (yE_p (by omega) hp0) rfl 0 (by decide) (by decide +kernel) rfl dX1_delay_11 ?_
  refine zi_const hx hb dX1_delay_14 ?_
  refine zi_sub hx hb dX1_delay_15 ?_
  refine zcallv (va_runS (As := [.int (iI (a)), .int (iI (0)), .int (iI ((p0.1 0) - 1))]) (rest := []) ⟨hx, hb, hml, hown, hts⟩ (c_X1_requireRange_ok l D cy A ad _ (a) (0) ((p0.1 0) - 1) (by omega) (by first | decide | (constructor <;> omega)) (by first | decide | (constructor <;> omega))) (va_cwS 3 hts gX1_delay_X1_requireRange rfl rfl rfl (by decide +kernel) ⟨(Nat.le_of_ble_eq_true rfl), (Nat.le_of_ble_eq_true rfl)⟩) (zPS hE hS) rfl rfl hl.1 rfl (lv_room (Nat.le_of_ble_eq_true rfl)) dX1_delay_16 ⟨(Nat.le_of_ble_eq_true rfl), (Nat.le_of_ble_eq_true rfl)⟩) hS (fun H1 locs hq hz1 hk1 hS => ?_)
  replace hq := hq.symm
  subst hq
  refine lv_iload_n hx hb dX1_delay_19 rfl (lv_at hl 4 rfl) ?_
  refine zi_const hx hb dX1_delay_20 ?_
  refine zi_bipush hx hb dX1_delay_21 (by decide) ?_
  refine zcallv (va_runS (As := [.int (iI (b)), .int (iI (1)), .int (iI (9))]) (rest := []) ⟨hx, hb, hml, hown, hts⟩ (c_X1_requireRange_ok l D cy A ad _ (b) (1) (9) (by omega) (by first | decide | (constructor <;> omega)) (by first | decide | (constructor <;> omega))) (va_cwS 3 hts gX1_delay_X1_requireRange rfl rfl rfl (by decide +kernel) ⟨(Nat.le_of_ble_eq_true rfl), (Nat.le_of_ble_eq_true rfl)⟩) (zPS hE hS) rfl rfl hl.1 rfl (lv_room (Nat.le_of_ble_eq_true rfl)) dX1_delay_23 ⟨(Nat.le_of_ble_eq_true rfl), (Nat.le_of_ble_eq_true rfl)⟩) hS (fun H1 locs hq hz1 hk1 hS => ?_)
  replace hq := hq.symm
  subst hq
  refine lv_aload hx hb dX1_delay_26 (lv_at hl 0 rfl) ?_
  refine zgetN (own := RX1) (C := RX0) (T := TX0) (N := 13) (index := 113) (host := RX1) hx hb hts hinX0 hown hE hw (10 + 3 * i) (yE_p (by omega) hp0) rfl 4 (by decide) (by decide +kernel) rfl dX1_delay_28 ?_
  refine zi_const hx hb dX1_delay_31 ?_
  refine zc_lt (tgt := 43) hx hb dX1_delay_32 (by decide) (by first | decide | (constructor <;> omega)) (by first | decide | (constructor <;> omega)) (fun c_32 => ?_) (fun c_32 => ?_)
  · exfalso; omega
  · exact zthrow (own := RX1) (cls := "java/lang/IllegalStateException") (names := ["java/lang/RuntimeException", "java/lang/Exception"]) hx hb hlf hown (by decide) (by decide) hts (by decide +kernel) (by decide +kernel) (by decide +kernel) (by decide +kernel) (by decide +kernel) hE hS (hl.1.trans hml.symm) dX1_delay_35 dX1_delay_38 dX1_delay_39 dX1_delay_42 htb (Nat.le_of_ble_eq_true rfl) (Nat.le_of_ble_eq_true rfl) (Nat.le_of_ble_eq_true rfl) (Nat.le_of_ble_eq_true rfl) hlocks

set_option maxHeartbeats 4000000 in
set_option maxRecDepth 100000 in
theorem c_x_X1_need (l : Launch) (hlf : l.stackTraces = false) (D : va_G) (cy : Nat → ClassId) (A : Nat → Prop) (ad : Nat → Nat) (ya : Nat → Nat → Int) (yi : Nat → Int) (pr : Nat → Option PS) (H0 : Heap) (a : Int) (hw : zW D A ad (yE cy ad ya yi pr) H0) (h1 : zr a) (h0 : ¬ (0 ≤ a ∧ a < 1000)) : vx_Met l yX1_need wsX1_need ({ frames := 7, cells := 1, slots := 6, locals := 101 }) (zPc D cy A [.ref (ad 0), .int (iI (a))] H0) zN (zX "java/lang/IndexOutOfBoundsException" H0 A) 1 6 A := by
  refine vx_ofW (cc := cX1_need) (maxL := 2) (ret := (some .int)) (by decide) rfl ?_
  intro pg en s mt args below meth c s₁ B hml htb hv
  obtain ⟨rfl, hH, hE⟩ := hv
  subst hH
  have hx := B.exec
  have hb := B.bytes
  have hr := B.returns
  have hts := atoms_spec (ws := wsX1_need) B.pre
  have hown : s.vm.findClass RX1 = some mt.cls := findClass_of_methodNamed B.named
  have hlocks := B.notSynchronized
  have hS : va_S A s.heap s.heap [] := va_S.rf
  have hl := lv_entry ([.ref (ad 0), .int (iI (a))]) (n := 2) (Nat.le_of_ble_eq_true rfl)
  rw [lg_entry_eq]
  generalize (lg_sl ([.ref (ad 0), .int (iI (a))]) ++ List.replicate (2 - (lg_sl ([.ref (ad 0), .int (iI (a))])).length) Slot.unset).toArray = ls at hl ⊢
  have hl : lv_has ls 2 [(0, .ref (ad 0)), (1, .int (iI (a)))] := hl
  refine lv_iload_n hx hb dX1_need_0 rfl (lv_at hl 1 rfl) ?_
  exact zxcall (vx_runS (As := [.int (iI (a))]) (rest := []) ⟨hx, hb, hml, hown, hts⟩ (c_x_X1_requireHour l hlf D cy A ad _ (a) (by first | decide | (constructor <;> omega)) (by omega)) (va_cwS 1 hts gX1_need_X1_requireHour rfl rfl rfl (by decide +kernel) ⟨(Nat.le_of_ble_eq_true rfl), (Nat.le_of_ble_eq_true rfl)⟩) (zPS hE hS) rfl rfl hl.1 rfl (lv_room (Nat.le_of_ble_eq_true rfl)) dX1_need_1 ⟨(Nat.le_of_ble_eq_true rfl), (Nat.le_of_ble_eq_true rfl)⟩) hS htb hlocks

set_option maxHeartbeats 4000000 in
set_option maxRecDepth 100000 in
theorem c_x_X1_pourOf (l : Launch) (hlf : l.stackTraces = false) (D : va_G) (cy : Nat → ClassId) (A : Nat → Prop) (ad : Nat → Nat) (ya : Nat → Nat → Int) (yi : Nat → Int) (pr : Nat → Option PS) (H0 : Heap) (a h : Int) (hw : zW D A ad (yE cy ad ya yi pr) H0) (h1 : zr a) (h2 : zr h) (hg : yB yi) (h0 : ¬ ((0 ≤ a ∧ a < yi 5) ∧ 0 ≤ h ∧ h < 1000)) : vx_Met l yX1_pourOf wsX1_pourOf ({ frames := 7, cells := 1, slots := 6, locals := 101 }) (zPc D cy A [.ref (ad 0), .int (iI (a)), .int (iI (h))] H0) zN (zX "java/lang/IndexOutOfBoundsException" H0 A) 1 6 A := by
  refine vx_ofW (cc := cX1_pourOf) (maxL := 7) (ret := (some .int)) (by decide) rfl ?_
  intro pg en s mt args below meth c s₁ B hml htb hv
  obtain ⟨rfl, hH, hE⟩ := hv
  subst hH
  have hx := B.exec
  have hb := B.bytes
  have hr := B.returns
  have hts := atoms_spec (ws := wsX1_pourOf) B.pre
  have hown : s.vm.findClass RX1 = some mt.cls := findClass_of_methodNamed B.named
  have hlocks := B.notSynchronized
  have hinX0 : ∀ w ∈ u_ws RX0 TX0 13, w ∈ wsX1_pourOf := by decide +kernel
  have hinX1 : ∀ w ∈ u_ws RX1 TX1 9, w ∈ wsX1_pourOf := by decide +kernel
  have hS : va_S A s.heap s.heap [] := va_S.rf
  have hl := lv_entry ([.ref (ad 0), .int (iI (a)), .int (iI (h))]) (n := 7) (Nat.le_of_ble_eq_true rfl)
  rw [lg_entry_eq]
  generalize (lg_sl ([.ref (ad 0), .int (iI (a)), .int (iI (h))]) ++ List.replicate (7 - (lg_sl ([.ref (ad 0), .int (iI (a)), .int (iI (h))])).length) Slot.unset).toArray = ls at hl ⊢
  have hl : lv_has ls 7 [(0, .ref (ad 0)), (1, .int (iI (a))), (2, .int (iI (h)))] := hl
  obtain ⟨g1, g2, g3, g4⟩ := id hg
  refine lv_iload_n hx hb dX1_pourOf_0 rfl (lv_at hl 1 rfl) ?_
  refine zf_lt (tgt := 12) hx hb dX1_pourOf_1 (by decide) (by first | decide | (constructor <;> omega)) (fun c_1 => ?_) (fun c_1 => ?_)
  · exact zthrow (own := RX1) (cls := "java/lang/IndexOutOfBoundsException") (names := ["java/lang/RuntimeException", "java/lang/Exception"]) hx hb hlf hown (by decide) (by decide) hts (by decide +kernel) (by decide +kernel) (by decide +kernel) (by decide +kernel) (by decide +kernel) hE hS (hl.1.trans hml.symm) dX1_pourOf_12 dX1_pourOf_15 dX1_pourOf_16 dX1_pourOf_19 htb (Nat.le_of_ble_eq_true rfl) (Nat.le_of_ble_eq_true rfl) (Nat.le_of_ble_eq_true rfl) (Nat.le_of_ble_eq_true rfl) hlocks
  · refine lv_iload_n hx hb dX1_pourOf_4 rfl (lv_at hl 1 rfl) ?_
    refine lv_aload_n hx hb dX1_pourOf_5 rfl (lv_at hl 0 rfl) ?_
    refine zget (C := RX1) (T := TX1) (N := 9) hx hb hts hinX1 hown hE hw 0 yE_0 rfl 5 (by decide) (hts (.fieldLink RX1 28 "FormworkYard" "yardPanels" "I") (by decide +kernel)) rfl dX1_pourOf_6 ?_
    refine zc_lt (tgt := 20) hx hb dX1_pourOf_9 (by decide) (by first | decide | (constructor <;> omega)) (by first | decide | (constructor <;> omega)) (fun c_9 => ?_) (fun c_9 => ?_)
    · refine lv_iload_n hx hb dX1_pourOf_20 rfl (lv_at hl 2 rfl) ?_
      exact zxcall (vx_runS (As := [.int (iI (h))]) (rest := []) ⟨hx, hb, hml, hown, hts⟩ (c_x_X1_requireHour l hlf D cy A ad _ (h) (by first | decide | (constructor <;> omega)) (by omega)) (va_cwS 1 hts gX1_pourOf_X1_requireHour rfl rfl rfl (by decide +kernel) ⟨(Nat.le_of_ble_eq_true rfl), (Nat.le_of_ble_eq_true rfl)⟩) (zPS hE hS) rfl rfl hl.1 rfl (lv_room (Nat.le_of_ble_eq_true rfl)) dX1_pourOf_21 ⟨(Nat.le_of_ble_eq_true rfl), (Nat.le_of_ble_eq_true rfl)⟩) hS htb hlocks
    · exact zthrow (own := RX1) (cls := "java/lang/IndexOutOfBoundsException") (names := ["java/lang/RuntimeException", "java/lang/Exception"]) hx hb hlf hown (by decide) (by decide) hts (by decide +kernel) (by decide +kernel) (by decide +kernel) (by decide +kernel) (by decide +kernel) hE hS (hl.1.trans hml.symm) dX1_pourOf_12 dX1_pourOf_15 dX1_pourOf_16 dX1_pourOf_19 htb (Nat.le_of_ble_eq_true rfl) (Nat.le_of_ble_eq_true rfl) (Nat.le_of_ble_eq_true rfl) (Nat.le_of_ble_eq_true rfl) hlocks
