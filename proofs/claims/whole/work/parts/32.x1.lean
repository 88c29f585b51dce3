set_option maxHeartbeats 4000000 in
set_option maxRecDepth 100000 in
theorem c_x_X1_require (l : Launch) (hlf : l.stackTraces = false) (D : va_G) (cy : Nat → ClassId) (A : Nat → Prop) (ad : Nat → Nat) (H0 : Heap) (h : Int) (h1 : h = 0) : vx_Met l yX1_require wsX1_require ({ frames := 6, cells := 1, slots := 6, locals := 81 }) (zPc D cy A [.int (iI (h))] H0) zN (zX "java/lang/IllegalArgumentException" H0 A) 1 6 A := by
  refine vx_ofW (cc := cX1_require) (maxL := 1) (ret := none) (by decide) rfl ?_
  intro pg en s mt args below meth c s₁ B hml htb hv
  obtain ⟨rfl, hH, hE⟩ := hv
  subst hH
  have hx := B.exec
  have hb := B.bytes
  have hr := B.returns
  have hts := atoms_spec (ws := wsX1_require) B.pre
  have hown : s.vm.findClass RX1 = some mt.cls := findClass_of_methodNamed B.named
  have hlocks := B.notSynchronized
  have hS : va_S A s.heap s.heap [] := va_S.rf
  have hl := lv_entry ([.int (iI (h))]) (n := 1) (Nat.le_of_ble_eq_true rfl)
  rw [lg_entry_eq]
  generalize (lg_sl ([.int (iI (h))]) ++ List.replicate (1 - (lg_sl ([.int (iI (h))])).length) Slot.unset).toArray = ls at hl ⊢
  have hl : lv_has ls 1 [(0, .int (iI (h)))] := hl
  refine lv_iload_n hx hb dX1_require_0 rfl (lv_at hl 0 rfl) ?_
  refine zf_ne (tgt := 12) hx hb dX1_require_1 (by decide) (by first | decide | (constructor <;> omega)) (fun c_1 => ?_) (fun c_1 => ?_)
  · exfalso; omega
  · exact zthrow (own := RX1) (cls := "java/lang/IllegalArgumentException") (names := ["java/lang/RuntimeException", "java/lang/Exception"]) hx hb hlf hown (by decide) (by decide) hts (by decide +kernel) (by decide +kernel) (by decide +kernel) (by decide +kernel) (by decide +kernel) hE hS (hl.1.trans hml.symm) dX1_require_4 dX1_require_7 dX1_require_8 dX1_require_11 htb (Nat.le_of_ble_eq_true rfl) (Nat.le_of_ble_eq_true rfl) (Nat.le_of_ble_eq_true rfl) (Nat.le_of_ble_eq_true rfl) hlocks

set_option maxHeartbeats 4000000 in
set_option maxRecDepth 100000 in
theorem c_x_X1_requireHour (l : Launch) (hlf : l.stackTraces = false) (D : va_G) (cy : Nat → ClassId) (A : Nat → Prop) (ad : Nat → Nat) (H0 : Heap) (h : Int) (h1 : zr h) (h2 : ¬ (0 ≤ h ∧ h < 1000)) : vx_Met l yX1_requireHour wsX1_requireHour ({ frames := 6, cells := 1, slots := 6, locals := 81 }) (zPc D cy A [.int (iI (h))] H0) zN (zX "java/lang/IndexOutOfBoundsException" H0 A) 1 6 A := by
  refine vx_ofW (cc := cX1_requireHour) (maxL := 1) (ret := none) (by decide) rfl ?_
  intro pg en s mt args below meth c s₁ B hml htb hv
  obtain ⟨rfl, hH, hE⟩ := hv
  subst hH
  have hx := B.exec
  have hb := B.bytes
  have hr := B.returns
  have hts := atoms_spec (ws := wsX1_requireHour) B.pre
  have hown : s.vm.findClass RX1 = some mt.cls := findClass_of_methodNamed B.named
  have hlocks := B.notSynchronized
  have hS : va_S A s.heap s.heap [] := va_S.rf
  have hl := lv_entry ([.int (iI (h))]) (n := 1) (Nat.le_of_ble_eq_true rfl)
  rw [lg_entry_eq]
  generalize (lg_sl ([.int (iI (h))]) ++ List.replicate (1 - (lg_sl ([.int (iI (h))])).length) Slot.unset).toArray = ls at hl ⊢
  have hl : lv_has ls 1 [(0, .int (iI (h)))] := hl
  refine lv_iload_n hx hb dX1_requireHour_0 rfl (lv_at hl 0 rfl) ?_
  refine zcalli (va_runS (As := [.int (iI (h))]) (rest := []) ⟨hx, hb, hml, hown, hts⟩ (c_X1_isHour l D cy A ad _ (h) (by first | decide | (constructor <;> omega))) (va_cwS 1 hts gX1_requireHour_X1_isHour rfl rfl rfl (by decide +kernel) ⟨(Nat.le_of_ble_eq_true rfl), (Nat.le_of_ble_eq_true rfl)⟩) (zPS hE hS) rfl rfl hl.1 rfl (lv_room (Nat.le_of_ble_eq_true rfl)) dX1_requireHour_1 ⟨(Nat.le_of_ble_eq_true rfl), (Nat.le_of_ble_eq_true rfl)⟩) hS (fun z_1 H1 locs hz_1 hq hz1 hk1 hS => ?_)
  obtain ⟨hqe, hv_1⟩ := hq
  replace hqe := hqe.symm
  subst hqe
  refine zf_ne (tgt := 15) hx hb dX1_requireHour_4 (by decide) (by first | decide | (constructor <;> omega)) (fun c_4 => ?_) (fun c_4 => ?_)
  · exfalso; omega
  · exact zthrow (own := RX1) (cls := "java/lang/IndexOutOfBoundsException") (names := ["java/lang/RuntimeException", "java/lang/Exception"]) hx hb hlf hown (by decide) (by decide) hts (by decide +kernel) (by decide +kernel) (by decide +kernel) (by decide +kernel) (by decide +kernel) hE hS (hl.1.trans hml.symm) dX1_requireHour_7 dX1_requireHour_10 dX1_requireHour_11 dX1_requireHour_14 htb (Nat.le_of_ble_eq_true rfl) (Nat.le_of_ble_eq_true rfl) (Nat.le_of_ble_eq_true rfl) (Nat.le_of_ble_eq_true rfl) hlocks

set_option maxHeartbeats 4000000 in
set_option maxRecDepth 100000 in
theorem c_x_X1_requireRange (l : Launch) (hlf : l.stackTraces = false) (D : va_G) (cy : Nat → ClassId) (A : Nat → Prop) (ad : Nat → Nat) (H0 : Heap) (v a b : Int) (h1 : zr v) (h2 : zr a) (h3 : zr b) (h4 : ¬ (a ≤ v ∧ v ≤ b)) : vx_Met l yX1_requireRange wsX1_requireRange ({ frames := 7, cells := 1, slots := 6, locals := 101 }) (zPc D cy A [.int (iI (v)), .int (iI (a)), .int (iI (b))] H0) zN (zX "java/lang/IllegalArgumentException" H0 A) 1 6 A := by
  refine vx_ofW (cc := cX1_requireRange) (maxL := 3) (ret := none) (by decide) rfl ?_
  intro pg en s mt args below meth c s₁ B hml htb hv
  obtain ⟨rfl, hH, hE⟩ := hv
  subst hH
  have hx := B.exec
  have hb := B.bytes
  have hr := B.returns
  have hts := atoms_spec (ws := wsX1_requireRange) B.pre
  have hown : s.vm.findClass RX1 = some mt.cls := findClass_of_methodNamed B.named
  have hlocks := B.notSynchronized
  have hS : va_S A s.heap s.heap [] := va_S.rf
  have hl := lv_entry ([.int (iI (v)), .int (iI (a)), .int (iI (b))]) (n := 3) (Nat.le_of_ble_eq_true rfl)
  rw [lg_entry_eq]
  generalize (lg_sl ([.int (iI (v)), .int (iI (a)), .int (iI (b))]) ++ List.replicate (3 - (lg_sl ([.int (iI (v)), .int (iI (a)), .int (iI (b))])).length) Slot.unset).toArray = ls at hl ⊢
  have hl : lv_has ls 3 [(0, .int (iI (v))), (1, .int (iI (a))), (2, .int (iI (b)))] := hl
  refine lv_iload_n hx hb dX1_requireRange_0 rfl (lv_at hl 0 rfl) ?_
  refine lv_iload_n hx hb dX1_requireRange_1 rfl (lv_at hl 1 rfl) ?_
  refine zc_lt (tgt := 14) hx hb dX1_requireRange_2 (by decide) (by first | decide | (constructor <;> omega)) (by first | decide | (constructor <;> omega)) (fun c_2 => ?_) (fun c_2 => ?_)
  · refine zi_const hx hb dX1_requireRange_14 ?_
    exact zxcall (vx_runS (As := [.int (iI (0))]) (rest := []) ⟨hx, hb, hml, hown, hts⟩ (c_x_X1_require l hlf D cy A ad _ (0) (by omega)) (va_cwS 1 hts gX1_requireRange_X1_require rfl rfl rfl (by decide +kernel) ⟨(Nat.le_of_ble_eq_true rfl), (Nat.le_of_ble_eq_true rfl)⟩) (zPS hE hS) rfl rfl hl.1 rfl (lv_room (Nat.le_of_ble_eq_true rfl)) dX1_requireRange_15 ⟨(Nat.le_of_ble_eq_true rfl), (Nat.le_of_ble_eq_true rfl)⟩) hS htb hlocks
  · refine lv_iload_n hx hb dX1_requireRange_5 rfl (lv_at hl 0 rfl) ?_
    refine lv_iload_n hx hb dX1_requireRange_6 rfl (lv_at hl 2 rfl) ?_
    refine zc_gt (tgt := 14) hx hb dX1_requireRange_7 (by decide) (by first | decide | (constructor <;> omega)) (by first | decide | (constructor <;> omega)) (fun c_7 => ?_) (fun c_7 => ?_)
    · refine zi_const hx hb dX1_requireRange_14 ?_
      exact zxcall (vx_runS (As := [.int (iI (0))]) (rest := []) ⟨hx, hb, hml, hown, hts⟩ (c_x_X1_require l hlf D cy A ad _ (0) (by omega)) (va_cwS 1 hts gX1_requireRange_X1_require rfl rfl rfl (by decide +kernel) ⟨(Nat.le_of_ble_eq_true rfl), (Nat.le_of_ble_eq_true rfl)⟩) (zPS hE hS) rfl rfl hl.1 rfl (lv_room (Nat.le_of_ble_eq_true rfl)) dX1_requireRange_15 ⟨(Nat.le_of_ble_eq_true rfl), (Nat.le_of_ble_eq_true rfl)⟩) hS htb hlocks
    · exfalso; omega

set_option maxHeartbeats 4000000 in
set_option maxRecDepth 100000 in
theorem c_x_X1_requirePour (l : Launch) (hlf : l.stackTraces = false) (D : va_G) (cy : Nat → ClassId) (A : Nat → Prop) (ad : Nat → Nat) (H0 : Heap) (a b d f : Int) (ha : zr a) (hb0 : zr b) (hd : zr d) (hf : zr f) (h1 : ¬ plOK a b d f) : vx_Met l yX1_requirePour wsX1_requirePour ({ frames := 8, cells := 1, slots := 6, locals := 123 }) (zPc D cy A [.int (iI (a)), .int (iI (b)), .int (iI (d)), .int (iI (f))] H0) zN (zX "java/lang/IllegalArgumentException" H0 A) 1 6 A := by
  refine vx_ofW (cc := cX1_requirePour) (maxL := 4) (ret := none) (by decide) rfl ?_
  intro pg en s mt args below meth c s₁ B hml htb hv
  obtain ⟨rfl, hH, hE⟩ := hv
  subst hH
  have hx := B.exec
  have hb := B.bytes
  have hr := B.returns
  have hts := atoms_spec (ws := wsX1_requirePour) B.pre
  have hown : s.vm.findClass RX1 = some mt.cls := findClass_of_methodNamed B.named
  have hlocks := B.notSynchronized
  have hS : va_S A s.heap s.heap [] := va_S.rf
  have hl := lv_entry ([.int (iI (a)), .int (iI (b)), .int (iI (d)), .int (iI (f))]) (n := 4) (Nat.le_of_ble_eq_true rfl)
  rw [lg_entry_eq]
  generalize (lg_sl ([.int (iI (a)), .int (iI (b)), .int (iI (d)), .int (iI (f))]) ++ List.replicate (4 - (lg_sl ([.int (iI (a)), .int (iI (b)), .int (iI (d)), .int (iI (f))])).length) Slot.unset).toArray = ls at hl ⊢
  have hl : lv_has ls 4 [(0, .int (iI (a))), (1, .int (iI (b))), (2, .int (iI (d))), (3, .int (iI (f)))] := hl
  have h1 : ¬ ((0 ≤ a ∧ a ≤ 900) ∧ (1 ≤ b ∧ b ≤ 200) ∧ (1 ≤ d ∧ d ≤ 30) ∧ (1 ≤ f ∧ f ≤ 100)) := h1
  rcases (show (¬ (0 ≤ a ∧ a ≤ 900)) ∨ ((0 ≤ a ∧ a ≤ 900) ∧ ¬ (1 ≤ b ∧ b ≤ 200)) ∨ ((0 ≤ a ∧ a ≤ 900) ∧ (1 ≤ b ∧ b ≤ 200) ∧ ¬ (1 ≤ d ∧ d ≤ 30)) ∨ ((0 ≤ a ∧ a ≤ 900) ∧ (1 ≤ b ∧ b ≤ 200) ∧ (1 ≤ d ∧ d ≤ 30) ∧ ¬ (1 ≤ f ∧ f ≤ 100)) by omega) with h9 | h9 | h9 | h9
  · refine lv_iload_n hx hb dX1_requirePour_0 rfl (lv_at hl 0 rfl) ?_
    refine zi_const hx hb dX1_requirePour_1 ?_
    refine zi_sipush hx hb dX1_requirePour_2 (by decide) ?_
    exact zxcall (vx_runS (As := [.int (iI (a)), .int (iI (0)), .int (iI (900))]) (rest := []) ⟨hx, hb, hml, hown, hts⟩ (c_x_X1_requireRange l hlf D cy A ad _ (a) (0) (900) (by first | decide | (constructor <;> omega)) (by first | decide | (constructor <;> omega)) (by first | decide | (constructor <;> omega)) (by omega)) (va_cwS 3 hts gX1_requirePour_X1_requireRange rfl rfl rfl (by decide +kernel) ⟨(Nat.le_of_ble_eq_true rfl), (Nat.le_of_ble_eq_true rfl)⟩) (zPS hE hS) rfl rfl hl.1 rfl (lv_room (Nat.le_of_ble_eq_true rfl)) dX1_requirePour_5 ⟨(Nat.le_of_ble_eq_true rfl), (Nat.le_of_ble_eq_true rfl)⟩) hS htb hlocks
  · refine lv_iload_n hx hb dX1_requirePour_0 rfl (lv_at hl 0 rfl) ?_
    refine zi_const hx hb dX1_requirePour_1 ?_
    refine zi_sipush hx hb dX1_requirePour_2 (by decide) ?_
    refine zcallv (va_runS (As := [.int (iI (a)), .int (iI (0)), .int (iI (900))]) (rest := []) ⟨hx, hb, hml, hown, hts⟩ (c_X1_requireRange_ok l D cy A ad _ (a) (0) (900) (by omega) (by first | decide | (constructor <;> omega)) (by first | decide | (constructor <;> omega))) (va_cwS 3 hts gX1_requirePour_X1_requireRange rfl rfl rfl (by decide +kernel) ⟨(Nat.le_of_ble_eq_true rfl), (Nat.le_of_ble_eq_true rfl)⟩) (zPS hE hS) rfl rfl hl.1 rfl (lv_room (Nat.le_of_ble_eq_true rfl)) dX1_requirePour_5 ⟨(Nat.le_of_ble_eq_true rfl), (Nat.le_of_ble_eq_true rfl)⟩) hS (fun H1 locs hq hz1 hk1 hS => ?_)
    replace hq := hq.symm
    subst hq
    refine lv_iload_n hx hb dX1_requirePour_8 rfl (lv_at hl 1 rfl) ?_
    refine zi_const hx hb dX1_requirePour_9 ?_
    refine zi_sipush hx hb dX1_requirePour_10 (by decide) ?_
    exact zxcall (vx_runS (As := [.int (iI (b)), .int (iI (1)), .int (iI (200))]) (rest := []) ⟨hx, hb, hml, hown, hts⟩ (c_x_X1_requireRange l hlf D cy A ad _ (b) (1) (200) (by first | decide | (constructor <;> omega)) (by first | decide | (constructor <;> omega)) (by first | decide | (constructor <;> omega)) (by omega)) (va_cwS 3 hts gX1_requirePour_X1_requireRange rfl rfl rfl (by decide +kernel) ⟨(Nat.le_of_ble_eq_true rfl), (Nat.le_of_ble_eq_true rfl)⟩) (zPS hE hS) rfl rfl hl.1 rfl (lv_room (Nat.le_of_ble_eq_true rfl)) dX1_requirePour_13 ⟨(Nat.le_of_ble_eq_true rfl), (Nat.le_of_ble_eq_true rfl)⟩) hS htb hlocks
  · refine lv_iload_n hx hb dX1_requirePour_0 rfl (lv_at hl 0 rfl) ?_
    refine zi_const hx hb dX1_requirePour_1 ?_
    refine zi_sipush hx hb dX1_requirePour_2 (by decide) ?_
    refine zcallv (va_runS (As := [.int (iI (a)), .int (iI (0)), .int (iI (900))]) (rest := []) ⟨hx, hb, hml, hown, hts⟩ (c_X1_requireRange_ok l D cy A ad _ (a) (0) (900) (by omega) (by first | decide | (constructor <;> omega)) (by first | decide | (constructor <;> omega))) (va_cwS 3 hts gX1_requirePour_X1_requireRange rfl rfl rfl (by decide +kernel) ⟨(Nat.le_of_ble_eq_true rfl), (Nat.le_of_ble_eq_true rfl)⟩) (zPS hE hS) rfl rfl hl.1 rfl (lv_room (Nat.le_of_ble_eq_true rfl)) dX1_requirePour_5 ⟨(Nat.le_of_ble_eq_true rfl), (Nat.le_of_ble_eq_true rfl)⟩) hS (fun H1 locs hq hz1 hk1 hS => ?_)
    replace hq := hq.symm
    subst hq
    refine lv_iload_n hx hb dX1_requirePour_8 rfl (lv_at hl 1 rfl) ?_
    refine zi_const hx hb dX1_requirePour_9 ?_
    refine zi_sipush hx hb dX1_requirePour_10 (by decide) ?_
    refine zcallv (va_runS (As := [.int (iI (b)), .int (iI (1)), .int (iI (200))]) (rest := []) ⟨hx, hb, hml, hown, hts⟩ (c_X1_requireRange_ok l D cy A ad _ (b) (1) (200) (by omega) (by first | decide | (constructor <;> omega)) (by first | decide | (constructor <;> omega))) (va_cwS 3 hts gX1_requirePour_X1_requireRange rfl rfl rfl (by decide +kernel) ⟨(Nat.le_of_ble_eq_true rfl), (Nat.le_of_ble_eq_true rfl)⟩) (zPS hE hS) rfl rfl hl.1 rfl (lv_room (Nat.le_of_ble_eq_true rfl)) dX1_requirePour_13 ⟨(Nat.le_of_ble_eq_true rfl), (Nat.le_of_ble_eq_true rfl)⟩) hS (fun H1 locs hq hz1 hk1 hS => ?_)
    replace hq := hq.symm
    subst hq
    refine lv_iload_n hx hb dX1_requirePour_16 rfl (lv_at hl 2 rfl) ?_
    refine zi_const hx hb dX1_requirePour_17 ?_
    refine zi_bipush hx hb dX1_requirePour_18 (by decide) ?_
    exact zxcall (vx_runS (As := [.int (iI (d)), .int (iI (1)), .int (iI (30))]) (rest := []) ⟨hx, hb, hml, hown, hts⟩ (c_x_X1_requireRange l hlf D cy A ad _ (d) (1) (30) (by first | decide | (constructor <;> omega)) (by first | decide | (constructor <;> omega)) (by first | decide | (constructor <;> omega)) (by omega)) (va_cwS 3 hts gX1_requirePour_X1_requireRange rfl rfl rfl (by decide +kernel) ⟨(Nat.le_of_ble_eq_true rfl), (Nat.le_of_ble_eq_true rfl)⟩) (zPS hE hS) rfl rfl hl.1 rfl (lv_room (Nat.le_of_ble_eq_true rfl)) dX1_requirePour_20 ⟨(Nat.le_of_ble_eq_true rfl), (Nat.le_of_ble_eq_true rfl)⟩) hS htb hlocks
  · refine lv_iload_n hx hb dX1_requirePour_0 rfl (lv_at hl 0 rfl) ?_
    refine zi_const hx hb dX1_requirePour_1 ?_
    refine zi_sipush hx hb dX1_requirePour_2 (by decide) ?_
    refine zcallv (va_runS (As := [.int (iI (a)), .int (iI (0)), .int (iI (900))]) (rest := []) ⟨hx, hb, hml, hown, hts⟩ (c_X1_requireRange_ok l D cy A ad _ (a) (0) (900) (by omega) (by first | decide | (constructor <;> omega)) (by first | decide | (constructor <;> omega))) (va_cwS 3 hts gX1_requirePour_X1_requireRange rfl rfl rfl (by decide +kernel) ⟨(Nat.le_of_ble_eq_true rfl), (Nat.le_of_ble_eq_true rfl)⟩) (zPS hE hS) rfl rfl hl.1 rfl (lv_room (Nat.le_of_ble_eq_true rfl)) dX1_requirePour_5 ⟨(Nat.le_of_ble_eq_true rfl), (Nat.le_of_ble_eq_true rfl)⟩) hS (fun H1 locs hq hz1 hk1 hS => ?_)
    replace hq := hq.symm
    subst hq
    refine lv_iload_n hx hb dX1_requirePour_8 rfl (lv_at hl 1 rfl) ?_
    refine zi_const hx hb dX1_requirePour_9 ?_
    refine zi_sipush hx hb dX1_requirePour_10 (by decide) ?_
    refine zcallv (va_runS (As := [.int (iI (b)), .int (iI (1)), .int (iI (200))]) (rest := []) ⟨hx, hb, hml, hown, hts⟩ (c_X1_requireRange_ok l D cy A ad _ (b) (1) (200) (by omega) (by first | decide | (constructor <;> omega)) (by first | decide | (constructor <;> omega))) (va_cwS 3 hts gX1_requirePour_X1_requireRange rfl rfl rfl (by decide +kernel) ⟨(Nat.le_of_ble_eq_true rfl), (Nat.le_of_ble_eq_true rfl)⟩) (zPS hE hS) rfl rfl hl.1 rfl (lv_room (Nat.le_of_ble_eq_true rfl)) dX1_requirePour_13 ⟨(Nat.le_of_ble_eq_true rfl), (Nat.le_of_ble_eq_true rfl)⟩) hS (fun H1 locs hq hz1 hk1 hS => ?_)
    replace hq := hq.symm
    subst hq
    refine lv_iload_n hx hb dX1_requirePour_16 rfl (lv_at hl 2 rfl) ?_
    refine zi_const hx hb dX1_requirePour_17 ?_
    refine zi_bipush hx hb dX1_requirePour_18 (by decide) ?_
    refine zcallv (va_runS (As := [.int (iI (d)), .int (iI (1)), .int (iI (30))]) (rest := []) ⟨hx, hb, hml, hown, hts⟩ (c_X1_requireRange_ok l D cy A ad _ (d) (1) (30) (by omega) (by first | decide | (constructor <;> omega)) (by first | decide | (constructor <;> omega))) (va_cwS 3 hts gX1_requirePour_X1_requireRange rfl rfl rfl (by decide +kernel) ⟨(Nat.le_of_ble_eq_true rfl), (Nat.le_of_ble_eq_true rfl)⟩) (zPS hE hS) rfl rfl hl.1 rfl (lv_room (Nat.le_of_ble_eq_true rfl)) dX1_requirePour_20 ⟨(Nat.le_of_ble_eq_true rfl), (Nat.le_of_ble_eq_true rfl)⟩) hS (fun H1 locs hq hz1 hk1 hS => ?_)
    replace hq := hq.symm
    subst hq
    refine lv_iload_n hx hb dX1_requirePour_23 rfl (lv_at hl 3 rfl) ?_
    refine zi_const hx hb dX1_requirePour_24 ?_
    refine zi_bipush hx hb dX1_requirePour_25 (by decide) ?_
    exact zxcall (vx_runS (As := [.int (iI (f)), .int (iI (1)), .int (iI (100))]) (rest := []) ⟨hx, hb, hml, hown, hts⟩ (c_x_X1_requireRange l hlf D cy A ad _ (f) (1) (100) (by first | decide | (constructor <;> omega)) (by first | decide | (constructor <;> omega)) (by first | decide | (constructor <;> omega)) (by omega)) (va_cwS 3 hts gX1_requirePour_X1_requireRange rfl rfl rfl (by decide +kernel) ⟨(Nat.le_of_ble_eq_true rfl), (Nat.le_of_ble_eq_true rfl)⟩) (zPS hE hS) rfl rfl hl.1 rfl (lv_room (Nat.le_of_ble_eq_true rfl)) dX1_requirePour_27 ⟨(Nat.le_of_ble_eq_true rfl), (Nat.le_of_ble_eq_true rfl)⟩) hS htb hlocks

set_option maxHeartbeats 4000000 in
set_option maxRecDepth 100000 in
theorem c_x_X1_existing (l : Launch) (hlf : l.stackTraces = false) (D : va_G) (cy : Nat → ClassId) (A : Nat → Prop) (ad : Nat → Nat) (ya : Nat → Nat → Int) (yi : Nat → Int) (pr : Nat → Option PS) (H0 : Heap) (v : Int) (hw : zW D A ad (yE cy ad ya yi pr) H0) (h1 : zr v) (hbad : ∀ k : Nat, v = (k : Int) → k < 10 → pr k = none) : vx_Met l yX1_existing wsX1_existing ({ frames := 6, cells := 1, slots := 6, locals := 81 }) (zPc D cy A [.ref (ad 0), .int (iI (v))] H0) zN (zX "java/util/NoSuchElementException" H0 A) 1 6 A := by
  refine vx_ofW (cc := cX1_existing) (maxL := 3) (ret := (some (.object "FormworkYard$Pour"))) (by decide) rfl ?_
  intro pg en s mt args below meth c s₁ B hml htb hv
  obtain ⟨rfl, hH, hE⟩ := hv
  subst hH
  have hx := B.exec
  have hb := B.bytes
  have hr := B.returns
  have hts := atoms_spec (ws := wsX1_existing) B.pre
  have hown : s.vm.findClass RX1 = some mt.cls := findClass_of_methodNamed B.named
  have hlocks := B.notSynchronized
  have hinX1 : ∀ w ∈ u_ws RX1 TX1 9, w ∈ wsX1_existing := by decide +kernel
  have hS : va_S A s.heap s.heap [] := va_S.rf
  have hl := lv_entry ([.ref (ad 0), .int (iI (v))]) (n := 3) (Nat.le_of_ble_eq_true rfl)
  rw [lg_entry_eq]
  generalize (lg_sl ([.ref (ad 0), .int (iI (v))]) ++ List.replicate (3 - (lg_sl ([.ref (ad 0), .int (iI (v))])).length) Slot.unset).toArray = ls at hl ⊢
  have hl : lv_has ls 3 [(0, .ref (ad 0)), (1, .int (iI (v)))] := hl
  refine lv_iload_n hx hb dX1_existing_0 rfl (lv_at hl 1 rfl) ?_
  refine zcalli (va_runS (As := [.int (iI (v))]) (rest := []) ⟨hx, hb, hml, hown, hts⟩ (c_X1_isNumber l D cy A ad _ (v) (by first | decide | (constructor <;> omega))) (va_cwS 1 hts gX1_existing_X1_isNumber rfl rfl rfl (by decide +kernel) ⟨(Nat.le_of_ble_eq_true rfl), (Nat.le_of_ble_eq_true rfl)⟩) (zPS hE hS) rfl rfl hl.1 rfl (lv_room (Nat.le_of_ble_eq_true rfl)) dX1_existing_1 ⟨(Nat.le_of_ble_eq_true rfl), (Nat.le_of_ble_eq_true rfl)⟩) hS (fun z_1 H1 locs hz_1 hq hz1 hk1 hS => ?_)
  obtain ⟨hqe, hv_1⟩ := hq
  replace hqe := hqe.symm
  subst hqe
  refine zf_eq (tgt := 16) hx hb dX1_existing_4 (by decide) (by first | decide | (constructor <;> omega)) (fun c_4 => ?_) (fun c_4 => ?_)
  · refine lv_null hx hb dX1_existing_16 ?_
    refine lv_astore_nN (lv' := [(2, .null), (0, .ref (ad 0)), (1, .int (iI (v)))]) hx hb dX1_existing_17 rfl hl (by decide) rfl (fun ls hl => ?_)
    refine lv_aload_nN hx hb dX1_existing_18 rfl (lv_at hl 0 rfl) ?_
    refine lv_ifnonnullN hx hb dX1_existing_19 ?_
    exact zthrow (own := RX1) (cls := "java/util/NoSuchElementException") (names := ["java/lang/RuntimeException", "java/lang/Exception"]) hx hb hlf hown (by decide) (by decide) hts (by decide +kernel) (by decide +kernel) (by decide +kernel) (by decide +kernel) (by decide +kernel) hE hS (hl.1.trans hml.symm) dX1_existing_22 dX1_existing_25 dX1_existing_26 dX1_existing_29 htb (Nat.le_of_ble_eq_true rfl) (Nat.le_of_ble_eq_true rfl) (Nat.le_of_ble_eq_true rfl) (Nat.le_of_ble_eq_true rfl) hlocks
  · obtain ⟨k, hkp_k⟩ : ∃ k : Nat, v = k := ⟨(v).toNat, by omega⟩
    rw [hkp_k] at hl
    have hkt_k : (v).toNat = k := by omega
    refine lv_aload_n hx hb dX1_existing_7 rfl (lv_at hl 0 rfl) ?_
    refine zget (C := RX1) (T := TX1) (N := 9) hx hb hts hinX1 hown hE hw 0 yE_0 rfl 4 (by decide) (hts (.fieldLink RX1 24 "FormworkYard" "pourList" "[LFormworkYard$Pour;") (by decide +kernel)) rfl dX1_existing_8 ?_
    refine lv_iload_n hx hb dX1_existing_11 rfl (lv_at hl 1 rfl) ?_
    refine zaald hx hb hE hw 5 yE_5 k rfl (by omega) (by omega) dX1_existing_12 ?_
    rcases hp_12 : pr k with _ | p_12
    · rw [yR_0 hp_12]
      refine lv_goto (tgt := 17) hx hb dX1_existing_13 (by decide) ?_
      refine lv_astore_nN (lv' := [(2, .null), (0, .ref (ad 0)), (1, .int (iI ((k : Int))))]) hx hb dX1_existing_17 rfl hl (by decide) rfl (fun ls hl => ?_)
      refine lv_aload_nN hx hb dX1_existing_18 rfl (lv_at hl 0 rfl) ?_
      refine lv_ifnonnullN hx hb dX1_existing_19 ?_
      exact zthrow (own := RX1) (cls := "java/util/NoSuchElementException") (names := ["java/lang/RuntimeException", "java/lang/Exception"]) hx hb hlf hown (by decide) (by decide) hts (by decide +kernel) (by decide +kernel) (by decide +kernel) (by decide +kernel) (by decide +kernel) hE hS (hl.1.trans hml.symm) dX1_existing_22 dX1_existing_25 dX1_existing_26 dX1_existing_29 htb (Nat.le_of_ble_eq_true rfl) (Nat.le_of_ble_eq_true rfl) (Nat.le_of_ble_eq_true rfl) (Nat.le_of_ble_eq_true rfl) hlocks
    · exfalso; rw [hbad k hkp_k (by omega)] at hp_12; cases hp_12
