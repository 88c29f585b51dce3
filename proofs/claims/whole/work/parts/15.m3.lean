theorem z_dummy3 : True := trivial
set_option maxHeartbeats 4000000 in
set_option maxRecDepth 100000 in
theorem c_X2_freeNumber (l : Launch) (D : va_G) (cy : Nat → ClassId) (A : Nat → Prop) (ad : Nat → Nat) (mi : Nat → Int) (ma : Nat → Nat → Int) (H0 : Heap) (hw : zW D A ad (mE cy ad mi ma) H0) (hb7 : ∀ j, j < 11 → ma 7 j = 0 ∨ ma 7 j = 1) : Met l yX2_freeNumber wsX2_freeNumber ({ frames := 0, cells := 0, slots := 0, locals := 0 }) (zPc D cy A [.ref (ad 0)] H0) (zQi (fun z H1 => H1 = H0 ∧ ∃ n : Nat, z = n ∧ frN ma n) A) 0 0 A := by
  refine Met.ofW (cc := cX2_freeNumber) (maxL := 2) (ret := (some .int)) (by decide) rfl ?_
  intro pg en s mt args below meth c s₁ B hml hv
  obtain ⟨rfl, hH, hE⟩ := hv
  subst hH
  have hx := B.exec
  have hb := B.bytes
  have hr := B.returns
  have hts := atoms_spec (ws := wsX2_freeNumber) B.pre
  have hown : s.vm.findClass RX2 = some mt.cls := findClass_of_methodNamed B.named
  have hlocks := B.notSynchronized
  have hinX2 : ∀ w ∈ u_ws RX2 TX2 19, w ∈ wsX2_freeNumber := by decide +kernel
  have hS : va_S A s.heap s.heap [] := va_S.rf
  have hl := lv_entry ([.ref (ad 0)]) (n := 2) (Nat.le_of_ble_eq_true rfl)
  rw [lg_entry_eq]
  generalize (lg_sl ([.ref (ad 0)]) ++ List.replicate (2 - (lg_sl ([.ref (ad 0)])).length) Slot.unset).toArray = ls at hl ⊢
  have hl : lv_has ls 2 [(0, .ref (ad 0))] := hl
  refine zi_const hx hb dX2_freeNumber_0 ?_
  refine lv_istore_n (lv' := [(1, .int (iI (0))), (0, .ref (ad 0))]) hx hb dX2_freeNumber_1 rfl hl (by decide) rfl (fun ls hl => ?_)
  have loop_2 : ∀ (n : Nat) (p : Nat) (locs : List Loc) (ls : Array Slot), 10 - p < n → (p ≤ 10) → (∀ j, j < p → ma 7 j = 1) → va_S A s.heap s.heap locs → lv_has ls 2 [(1, .int (iI ((p : Int)))), (0, .ref (ad 0))] → W pg l en (headSpec wsX2_freeNumber ({ frames := 0, cells := 0, slots := 0, locals := 0 })).room s mt ([.ref (ad 0)] : List Value).toArray below meth c s.heap locs 0 0 (MQ below (zQi (fun z H1 => H1 = s.heap ∧ ∃ n : Nat, z = n ∧ frN ma n) A) ([.ref (ad 0)] : List Value).toArray s 0 0 A) (F0 mt 2 ls []) := by
    intro n
    induction n with
    | zero =>
      intro p locs ls hm hp10 hk
      exfalso; omega
    | succ n ih =>
      intro p locs ls hm hp10 hk hS hl
      refine lv_iload_n hx hb dX2_freeNumber_2 rfl (lv_at hl 0 rfl) ?_
      refine zi_bipush hx hb dX2_freeNumber_3 (by decide) ?_
      refine zc_ge (tgt := 23) hx hb dX2_freeNumber_5 (by decide) (by first | decide | (constructor <;> omega)) (by first | decide | (constructor <;> omega)) (fun c_5 => ?_) (fun c_5 => ?_)
      · refine lv_iload_n hx hb dX2_freeNumber_23 rfl (lv_at hl 0 rfl) ?_
        refine ziret hx hb hr hlocks hS (Nat.le_of_ble_eq_true rfl) (Nat.le_of_ble_eq_true rfl) (by first | decide | (constructor <;> omega)) ?_ dX2_freeNumber_24
        exact ⟨rfl, p, rfl, by omega, hk, fun h => by omega⟩
      · refine lv_aload_n hx hb dX2_freeNumber_8 rfl (lv_at hl 1 rfl) ?_
        refine zget (C := RX2) (T := TX2) (N := 19) hx hb hts hinX2 hown hE hw 0 mE_0 rfl 7 (by decide) (hts (.fieldLink RX2 29 "FormworkYardModel" "isThere" "[Z") (by decide +kernel)) rfl dX2_freeNumber_9 ?_
        refine lv_iload_n hx hb dX2_freeNumber_12 rfl (lv_at hl 0 rfl) ?_
        refine zzald hx hb hE hw 7 (mE_a 7 (by decide) rfl) p rfl (by omega) (by omega) dX2_freeNumber_13 ?_
        refine zi_top (fun v_13 hv_13 => ?_)
        have hB := hb7 p (by omega)
        refine zf_eq (tgt := 23) hx hb dX2_freeNumber_14 (by decide) (by first | decide | (constructor <;> omega)) (fun c_14 => ?_) (fun c_14 => ?_)
        · refine lv_iload_n hx hb dX2_freeNumber_23 rfl (lv_at hl 0 rfl) ?_
          refine ziret hx hb hr hlocks hS (Nat.le_of_ble_eq_true rfl) (Nat.le_of_ble_eq_true rfl) (by first | decide | (constructor <;> omega)) ?_ dX2_freeNumber_24
          exact ⟨rfl, p, rfl, by omega, hk, fun h => by omega⟩
        · refine zi_iinc (lv' := [(1, .int (iI ((p : Int) + 1))), (0, .ref (ad 0))]) hx hb dX2_freeNumber_17 hl (k := 0) rfl (by decide) rfl (fun ls hl => ?_)
          refine lv_goto (tgt := 2) hx hb dX2_freeNumber_20 (by decide) ?_
          exact ih (p + 1) _ _ (by omega) (by omega) (fun j hj => by rcases Nat.lt_or_ge j p with h | h; exact hk j h; have e : j = p := (by omega); subst e; omega) hS (lv_sub hl [0, 1] rfl)
  exact loop_2 11 0 _ _ (by omega) (by omega) (fun j hj => absurd hj (Nat.not_lt_zero j)) hS (lv_sub hl [0, 1] rfl)

set_option maxHeartbeats 4000000 in
set_option maxRecDepth 100000 in
theorem c_X2_lays (l : Launch) (D : va_G) (cy : Nat → ClassId) (A : Nat → Prop) (ad : Nat → Nat) (mi : Nat → Int) (ma : Nat → Nat → Int) (H0 : Heap) (p : Nat) (a b d f : Int) (hw : zW D A ad (mE cy ad mi ma) H0) (hp : p < 11) : Met l yX2_lays wsX2_lays ({ frames := 0, cells := 0, slots := 0, locals := 0 }) (zPc D cy A [.ref (ad 0), .int (iI ((p : Int))), .int (iI (a)), .int (iI (b)), .int (iI (d)), .int (iI (f))] H0) (zQv (fun H1 => ∃ mb, zW D A ad (mE cy ad mi mb) H1 ∧ layR p a b d f ma mb) A) 0 0 A := by
  refine Met.ofW (cc := cX2_lays) (maxL := 6) (ret := none) (by decide) rfl ?_
  intro pg en s mt args below meth c s₁ B hml hv
  obtain ⟨rfl, hH, hE⟩ := hv
  subst hH
  have hx := B.exec
  have hb := B.bytes
  have hr := B.returns
  have hts := atoms_spec (ws := wsX2_lays) B.pre
  have hown : s.vm.findClass RX2 = some mt.cls := findClass_of_methodNamed B.named
  have hlocks := B.notSynchronized
  have hinX2 : ∀ w ∈ u_ws RX2 TX2 19, w ∈ wsX2_lays := by decide +kernel
  have hS : va_S A s.heap s.heap [] := va_S.rf
  have hl := lv_entry ([.ref (ad 0), .int (iI ((p : Int))), .int (iI (a)), .int (iI (b)), .int (iI (d)), .int (iI (f))]) (n := 6) (Nat.le_of_ble_eq_true rfl)
  rw [lg_entry_eq]
  generalize (lg_sl ([.ref (ad 0), .int (iI ((p : Int))), .int (iI (a)), .int (iI (b)), .int (iI (d)), .int (iI (f))]) ++ List.replicate (6 - (lg_sl ([.ref (ad 0), .int (iI ((p : Int))), .int (iI (a)), .int (iI (b)), .int (iI (d)), .int (iI (f))])).length) Slot.unset).toArray = ls at hl ⊢
  have hl : lv_has ls 6 [(0, .ref (ad 0)), (1, .int (iI ((p : Int)))), (2, .int (iI (a))), (3, .int (iI (b))), (4, .int (iI (d))), (5, .int (iI (f)))] := hl
  refine lv_aload_n hx hb dX2_lays_0 rfl (lv_at hl 0 rfl) ?_
  refine zget (C := RX2) (T := TX2) (N := 19) hx hb hts hinX2 hown hE hw 0 mE_0 rfl 8 (by decide) (hts (.fieldLink RX2 33 "FormworkYardModel" "starts" "[I") (by decide +kernel)) rfl dX2_lays_1 ?_
  refine lv_iload_n hx hb dX2_lays_4 rfl (lv_at hl 1 rfl) ?_
  refine lv_iload_n hx hb dX2_lays_5 rfl (lv_at hl 2 rfl) ?_
  refine ziast hx hb hE hS hw 8 (mE_a 8 (by decide) rfl) p rfl (by omega) (by omega) dX2_lays_6 (fun H locs hw hS => ?_)
  have hw := hw.cong (mU_a 8 (by decide) rfl (p) (a))
  obtain ⟨ma_1, hma_1⟩ : ∃ z : Nat → Nat → Int, z = (va_up ma 8 (va_up (ma 8) (p) (a))) := ⟨_, rfl⟩
  rw [← hma_1] at hw
  refine lv_aload_n hx hb dX2_lays_7 rfl (lv_at hl 0 rfl) ?_
  refine zget (C := RX2) (T := TX2) (N := 19) hx hb hts hinX2 hown hE hw 0 mE_0 rfl 9 (by decide) (hts (.fieldLink RX2 36 "FormworkYardModel" "volumes" "[I") (by decide +kernel)) rfl dX2_lays_8 ?_
  refine lv_iload_n hx hb dX2_lays_11 rfl (lv_at hl 1 rfl) ?_
  refine lv_iload_n hx hb dX2_lays_12 rfl (lv_at hl 3 rfl) ?_
  refine ziast hx hb hE hS hw 9 (mE_a 9 (by decide) rfl) p rfl (by omega) (by omega) dX2_lays_13 (fun H locs hw hS => ?_)
  have hw := hw.cong (mU_a 9 (by decide) rfl (p) (b))
  obtain ⟨ma_2, hma_2⟩ : ∃ z : Nat → Nat → Int, z = (va_up ma_1 9 (va_up (ma_1 9) (p) (b))) := ⟨_, rfl⟩
  rw [← hma_2] at hw
  refine lv_aload_n hx hb dX2_lays_14 rfl (lv_at hl 0 rfl) ?_
  refine zget (C := RX2) (T := TX2) (N := 19) hx hb hts hinX2 hown hE hw 0 mE_0 rfl 10 (by decide) (hts (.fieldLink RX2 39 "FormworkYardModel" "needs" "[I") (by decide +kernel)) rfl dX2_lays_15 ?_
  refine lv_iload_n hx hb dX2_lays_18 rfl (lv_at hl 1 rfl) ?_
  refine lv_iload hx hb dX2_lays_19 (lv_at hl 4 rfl) ?_
  refine ziast hx hb hE hS hw 10 (mE_a 10 (by decide) rfl) p rfl (by omega) (by omega) dX2_lays_21 (fun H locs hw hS => ?_)
  have hw := hw.cong (mU_a 10 (by decide) rfl (p) (d))
  obtain ⟨ma_3, hma_3⟩ : ∃ z : Nat → Nat → Int, z = (va_up ma_2 10 (va_up (ma_2 10) (p) (d))) := ⟨_, rfl⟩
  rw [← hma_3] at hw
  refine lv_aload_n hx hb dX2_lays_22 rfl (lv_at hl 0 rfl) ?_
  refine zget (C := RX2) (T := TX2) (N := 19) hx hb hts hinX2 hown hE hw 0 mE_0 rfl 11 (by decide) (hts (.fieldLink RX2 42 "FormworkYardModel" "wanted" "[I") (by decide +kernel)) rfl dX2_lays_23 ?_
  refine lv_iload_n hx hb dX2_lays_26 rfl (lv_at hl 1 rfl) ?_
  refine lv_iload hx hb dX2_lays_27 (lv_at hl 5 rfl) ?_
  refine ziast hx hb hE hS hw 11 (mE_a 11 (by decide) rfl) p rfl (by omega) (by omega) dX2_lays_29 (fun H locs hw hS => ?_)
  have hw := hw.cong (mU_a 11 (by decide) rfl (p) (f))
  obtain ⟨ma_4, hma_4⟩ : ∃ z : Nat → Nat → Int, z = (va_up ma_3 11 (va_up (ma_3 11) (p) (f))) := ⟨_, rfl⟩
  rw [← hma_4] at hw
  refine lv_aload_n hx hb dX2_lays_30 rfl (lv_at hl 0 rfl) ?_
  refine zget (C := RX2) (T := TX2) (N := 19) hx hb hts hinX2 hown hE hw 0 mE_0 rfl 12 (by decide) (hts (.fieldLink RX2 45 "FormworkYardModel" "breakMany" "[I") (by decide +kernel)) rfl dX2_lays_31 ?_
  refine lv_iload_n hx hb dX2_lays_34 rfl (lv_at hl 1 rfl) ?_
  refine zi_const hx hb dX2_lays_35 ?_
  refine ziast hx hb hE hS hw 12 (mE_a 12 (by decide) rfl) p rfl (by omega) (by omega) dX2_lays_36 (fun H locs hw hS => ?_)
  have hw := hw.cong (mU_a 12 (by decide) rfl (p) (0))
  obtain ⟨ma_5, hma_5⟩ : ∃ z : Nat → Nat → Int, z = (va_up ma_4 12 (va_up (ma_4 12) (p) (0))) := ⟨_, rfl⟩
  rw [← hma_5] at hw
  refine zvret hx hb hr hlocks hS (Nat.le_of_ble_eq_true rfl) (Nat.le_of_ble_eq_true rfl) ?_ dX2_lays_37
  refine ⟨_, hw, ?_, ?_, ?_, ?_, ?_, ?_⟩
  · simp [hma_5, hma_4, hma_3, hma_2, hma_1, va_up]
  · simp [hma_5, hma_4, hma_3, hma_2, hma_1, va_up]
  · simp [hma_5, hma_4, hma_3, hma_2, hma_1, va_up]
  · simp [hma_5, hma_4, hma_3, hma_2, hma_1, va_up]
  · simp [hma_5, hma_4, hma_3, hma_2, hma_1, va_up]
  · intro r hr; simp [hma_5, hma_4, hma_3, hma_2, hma_1, va_up]; repeat (rw [if_neg (by omega)])

set_option maxHeartbeats 4000000 in
set_option maxRecDepth 100000 in
theorem c_X2_plan (l : Launch) (D : va_G) (cy : Nat → ClassId) (A : Nat → Prop) (ad : Nat → Nat) (mi : Nat → Int) (ma : Nat → Nat → Int) (H0 : Heap) (a b d f : Int) (hw : zW D A ad (mE cy ad mi ma) H0) (h1 : zr a) (h2 : zr b) (h3 : zr d) (h4 : zr f) (hm0 : mOK mi ma) : Met l yX2_plan wsX2_plan ({ frames := 2, cells := 0, slots := 0, locals := 45 }) (zPc D cy A [.ref (ad 0), .int (iI (a)), .int (iI (b)), .int (iI (d)), .int (iI (f))] H0) (zQi (fun z H1 => ∃ (nf : Nat) (c : Int) (mb : Nat → Nat → Int), zW D A ad (mE cy ad (va_up mi 0 c) mb) H1 ∧ frN ma nf ∧ c = (if plOK a b d f then (if nf = 10 then 2 else 0) else 1) ∧ ((c ≠ 0 ∧ mb = ma) ∨ (c = 0 ∧ z = nf ∧ layR nf a b d f (va_up ma 7 (va_up (ma 7) nf 1)) mb))) A) 0 0 A := by
  refine Met.ofW (cc := cX2_plan) (maxL := 6) (ret := (some .int)) (by decide) rfl ?_
  intro pg en s mt args below meth c s₁ B hml hv
  obtain ⟨rfl, hH, hE⟩ := hv
  subst hH
  have hx := B.exec
  have hb := B.bytes
  have hr := B.returns
  have hts := atoms_spec (ws := wsX2_plan) B.pre
  have hown : s.vm.findClass RX2 = some mt.cls := findClass_of_methodNamed B.named
  have hlocks := B.notSynchronized
  have hinX2 : ∀ w ∈ u_ws RX2 TX2 19, w ∈ wsX2_plan := by decide +kernel
  have hS : va_S A s.heap s.heap [] := va_S.rf
  have hl := lv_entry ([.ref (ad 0), .int (iI (a)), .int (iI (b)), .int (iI (d)), .int (iI (f))]) (n := 6) (Nat.le_of_ble_eq_true rfl)
  rw [lg_entry_eq]
  generalize (lg_sl ([.ref (ad 0), .int (iI (a)), .int (iI (b)), .int (iI (d)), .int (iI (f))]) ++ List.replicate (6 - (lg_sl ([.ref (ad 0), .int (iI (a)), .int (iI (b)), .int (iI (d)), .int (iI (f))])).length) Slot.unset).toArray = ls at hl ⊢
  have hl : lv_has ls 6 [(0, .ref (ad 0)), (1, .int (iI (a))), (2, .int (iI (b))), (3, .int (iI (d))), (4, .int (iI (f)))] := hl
  obtain ⟨ht, hg, hb7, hpo⟩ := id hm0
  refine lv_aload_n hx hb dX2_plan_0 rfl (lv_at hl 0 rfl) ?_
  refine zcalli (va_runV (As := []) (rest := []) ⟨hx, hb, hml, hown, hts⟩ (c_X2_freeNumber l D cy A ad mi ma _ hw hb7) (cwV 0 hts gX2_plan_X2_freeNumber rfl rfl rfl (by decide +kernel) ⟨(Nat.le_of_ble_eq_true rfl), (Nat.le_of_ble_eq_true rfl)⟩) (zPV hE hS hw (ci := 2) (k0 := 0) rfl mE_0) rfl rfl hl.1 rfl (lv_room (Nat.le_of_ble_eq_true rfl)) dX2_plan_1 ⟨(Nat.le_of_ble_eq_true rfl), (Nat.le_of_ble_eq_true rfl)⟩) hS (fun z_1 H1 locs hz_1 hq hz1 hk1 hS => ?_)
  obtain ⟨hqe, nf, hv_1, hnf⟩ := hq
  replace hqe := hqe.symm
  subst hqe
  subst hv_1
  obtain ⟨hn1, hn2, hn3⟩ := id hnf
  refine lv_istore (lv' := [(5, .int (iI ((nf : Int)))), (0, .ref (ad 0)), (1, .int (iI (a))), (2, .int (iI (b))), (3, .int (iI (d))), (4, .int (iI (f)))]) hx hb dX2_plan_4 hl (by decide) rfl (fun ls hl => ?_)
  refine lv_aload_n hx hb dX2_plan_6 rfl (lv_at hl 1 rfl) ?_
  refine lv_iload_n hx hb dX2_plan_7 rfl (lv_at hl 2 rfl) ?_
  refine lv_iload_n hx hb dX2_plan_8 rfl (lv_at hl 3 rfl) ?_
  refine lv_iload_n hx hb dX2_plan_9 rfl (lv_at hl 4 rfl) ?_
  refine lv_iload hx hb dX2_plan_10 (lv_at hl 5 rfl) ?_
  refine zcalli (va_runS (As := [.int (iI (a)), .int (iI (b)), .int (iI (d)), .int (iI (f))]) (rest := [.ref (ad 0)]) ⟨hx, hb, hml, hown, hts⟩ (c_X2_isPlan l D cy A ad _ (a) (b) (d) (f) (by first | decide | (constructor <;> omega)) (by first | decide | (constructor <;> omega)) (by first | decide | (constructor <;> omega)) (by first | decide | (constructor <;> omega))) (va_cwS 4 hts gX2_plan_X2_isPlan rfl rfl rfl (by decide +kernel) ⟨(Nat.le_of_ble_eq_true rfl), (Nat.le_of_ble_eq_true rfl)⟩) (zPS hE hS) rfl rfl hl.1 rfl (lv_room (Nat.le_of_ble_eq_true rfl)) dX2_plan_12 ⟨(Nat.le_of_ble_eq_true rfl), (Nat.le_of_ble_eq_true rfl)⟩) hS (fun z_12 H1 locs hz_12 hq hz1 hk1 hS => ?_)
  obtain ⟨hqe, hv_12⟩ := hq
  replace hqe := hqe.symm
  subst hqe
  refine zf_ne (tgt := 22) hx hb dX2_plan_15 (by decide) (by first | decide | (constructor <;> omega)) (fun c_15 => ?_) (fun c_15 => ?_)
  · refine lv_iload hx hb dX2_plan_22 (lv_at hl 0 rfl) ?_
    refine zi_bipush hx hb dX2_plan_24 (by decide) ?_
    refine zc_ne (tgt := 33) hx hb dX2_plan_26 (by decide) (by first | decide | (constructor <;> omega)) (by first | decide | (constructor <;> omega)) (fun c_26 => ?_) (fun c_26 => ?_)
    · refine zi_const hx hb dX2_plan_33 ?_
      refine zput (C := RX2) (T := TX2) (N := 19) hx hb hts hinX2 tyX2 tyX2_ok nmX2 hown hE hS hw 0 mE_0 rfl 0 (by decide) (hts (.fieldLink RX2 66 "FormworkYardModel" "thrown" "I") (by decide +kernel)) rfl (ty := .int) (by decide +kernel) rfl rfl (Nat.le_of_ble_eq_true rfl) dX2_plan_34 (fun H locs hw hS => ?_)
      have hw := hw.cong (mU_i 0 (by decide) (0))
      refine lv_aload_n hx hb dX2_plan_37 rfl (lv_at hl 1 rfl) ?_
      refine zget (C := RX2) (T := TX2) (N := 19) hx hb hts hinX2 hown hE hw 0 mE_0 rfl 0 (by decide) (hts (.fieldLink RX2 66 "FormworkYardModel" "thrown" "I") (by decide +kernel)) rfl dX2_plan_38 ?_
      refine zi_top (fun v_38 hv_38 => ?_)
      simp [va_up] at hv_38
      subst hv_38
      refine zf_le (tgt := 46) hx hb dX2_plan_41 (by decide) (by first | decide | (constructor <;> omega)) (fun c_41 => ?_) (fun c_41 => ?_)
      · refine lv_aload_n hx hb dX2_plan_46 rfl (lv_at hl 1 rfl) ?_
        refine zget (C := RX2) (T := TX2) (N := 19) hx hb hts hinX2 hown hE hw 0 mE_0 rfl 7 (by decide) (hts (.fieldLink RX2 29 "FormworkYardModel" "isThere" "[Z") (by decide +kernel)) rfl dX2_plan_47 ?_
        refine lv_iload hx hb dX2_plan_50 (lv_at hl 0 rfl) ?_
        refine zi_const hx hb dX2_plan_52 ?_
        refine zzast hx hb hE hS hw 7 (mE_a 7 (by decide) rfl) (by omega) nf rfl (by omega) (by omega) dX2_plan_53 (fun H locs hw hS => ?_)
        have hw := hw.cong (mU_a 7 (by decide) rfl (nf) (1))
        obtain ⟨ma_1, hma_1⟩ : ∃ z : Nat → Nat → Int, z = (va_up ma 7 (va_up (ma 7) (nf) (1))) := ⟨_, rfl⟩
        rw [← hma_1] at hw
        refine lv_aload_n hx hb dX2_plan_54 rfl (lv_at hl 1 rfl) ?_
        refine lv_iload hx hb dX2_plan_55 (lv_at hl 0 rfl) ?_
        refine lv_iload_n hx hb dX2_plan_57 rfl (lv_at hl 2 rfl) ?_
        refine lv_iload_n hx hb dX2_plan_58 rfl (lv_at hl 3 rfl) ?_
        refine lv_iload_n hx hb dX2_plan_59 rfl (lv_at hl 4 rfl) ?_
        refine lv_iload hx hb dX2_plan_60 (lv_at hl 5 rfl) ?_
        refine zcallv (va_runV (As := [.int (iI ((nf : Int))), .int (iI (a)), .int (iI (b)), .int (iI (d)), .int (iI (f))]) (rest := []) ⟨hx, hb, hml, hown, hts⟩ (c_X2_lays l D cy A ad (va_up mi 0 (0)) ma_1 _ nf (a) (b) (d) (f) hw (by omega)) (cwV 5 hts gX2_plan_X2_lays rfl rfl rfl (by decide +kernel) ⟨(Nat.le_of_ble_eq_true rfl), (Nat.le_of_ble_eq_true rfl)⟩) (zPV hE hS hw (ci := 2) (k0 := 0) rfl mE_0) rfl rfl hl.1 rfl (lv_room (Nat.le_of_ble_eq_true rfl)) dX2_plan_62 ⟨(Nat.le_of_ble_eq_true rfl), (Nat.le_of_ble_eq_true rfl)⟩) hS (fun H1 locs hq hz1 hk1 hS => ?_)
        obtain ⟨ma_l62, hw, hlay_62⟩ := hq
        refine lv_iload hx hb dX2_plan_65 (lv_at hl 0 rfl) ?_
        refine ziret hx hb hr hlocks hS (Nat.le_of_ble_eq_true rfl) (Nat.le_of_ble_eq_true rfl) (by first | decide | (constructor <;> omega)) ?_ dX2_plan_67
        refine ⟨nf, _, _, hw, hnf, by unfold plOK; (repeat' split) <;> omega, ?_⟩
        exact Or.inr ⟨rfl, rfl, by rw [← hma_1]; exact hlay_62⟩
      · exfalso; omega
    · refine zi_const hx hb dX2_plan_29 ?_
      refine lv_goto (tgt := 34) hx hb dX2_plan_30 (by decide) ?_
      refine zput (C := RX2) (T := TX2) (N := 19) hx hb hts hinX2 tyX2 tyX2_ok nmX2 hown hE hS hw 0 mE_0 rfl 0 (by decide) (hts (.fieldLink RX2 66 "FormworkYardModel" "thrown" "I") (by decide +kernel)) rfl (ty := .int) (by decide +kernel) rfl rfl (Nat.le_of_ble_eq_true rfl) dX2_plan_34 (fun H locs hw hS => ?_)
      have hw := hw.cong (mU_i 0 (by decide) (2))
      refine lv_aload_n hx hb dX2_plan_37 rfl (lv_at hl 1 rfl) ?_
      refine zget (C := RX2) (T := TX2) (N := 19) hx hb hts hinX2 hown hE hw 0 mE_0 rfl 0 (by decide) (hts (.fieldLink RX2 66 "FormworkYardModel" "thrown" "I") (by decide +kernel)) rfl dX2_plan_38 ?_
      refine zi_top (fun v_38 hv_38 => ?_)
      simp [va_up] at hv_38
      subst hv_38
      refine zf_le (tgt := 46) hx hb dX2_plan_41 (by decide) (by first | decide | (constructor <;> omega)) (fun c_41 => ?_) (fun c_41 => ?_)
      · exfalso; omega
      · refine zi_const hx hb dX2_plan_44 ?_
        refine ziret hx hb hr hlocks hS (Nat.le_of_ble_eq_true rfl) (Nat.le_of_ble_eq_true rfl) (by first | decide | (constructor <;> omega)) ?_ dX2_plan_45
        refine ⟨nf, _, _, hw, hnf, by unfold plOK; (repeat' split) <;> omega, ?_⟩
        exact Or.inl ⟨by decide, rfl⟩
  · refine zi_const hx hb dX2_plan_18 ?_
    refine lv_goto (tgt := 34) hx hb dX2_plan_19 (by decide) ?_
    refine zput (C := RX2) (T := TX2) (N := 19) hx hb hts hinX2 tyX2 tyX2_ok nmX2 hown hE hS hw 0 mE_0 rfl 0 (by decide) (hts (.fieldLink RX2 66 "FormworkYardModel" "thrown" "I") (by decide +kernel)) rfl (ty := .int) (by decide +kernel) rfl rfl (Nat.le_of_ble_eq_true rfl) dX2_plan_34 (fun H locs hw hS => ?_)
    have hw := hw.cong (mU_i 0 (by decide) (1))
    refine lv_aload_n hx hb dX2_plan_37 rfl (lv_at hl 1 rfl) ?_
    refine zget (C := RX2) (T := TX2) (N := 19) hx hb hts hinX2 hown hE hw 0 mE_0 rfl 0 (by decide) (hts (.fieldLink RX2 66 "FormworkYardModel" "thrown" "I") (by decide +kernel)) rfl dX2_plan_38 ?_
    refine zi_top (fun v_38 hv_38 => ?_)
    simp [va_up] at hv_38
    subst hv_38
    refine zf_le (tgt := 46) hx hb dX2_plan_41 (by decide) (by first | decide | (constructor <;> omega)) (fun c_41 => ?_) (fun c_41 => ?_)
    · exfalso; omega
    · refine zi_const hx hb dX2_plan_44 ?_
      refine ziret hx hb hr hlocks hS (Nat.le_of_ble_eq_true rfl) (Nat.le_of_ble_eq_true rfl) (by first | decide | (constructor <;> omega)) ?_ dX2_plan_45
      refine ⟨nf, _, _, hw, hnf, by unfold plOK; (repeat' split) <;> omega, ?_⟩
      exact Or.inl ⟨by decide, rfl⟩

set_option maxHeartbeats 4000000 in
set_option maxRecDepth 100000 in
theorem c_X2_move (l : Launch) (D : va_G) (cy : Nat → ClassId) (A : Nat → Prop) (ad : Nat → Nat) (mi : Nat → Int) (ma : Nat → Nat → Int) (H0 : Heap) (p a : Int) (hw : zW D A ad (mE cy ad mi ma) H0) (h1 : zr p) (h2 : zr a) (hm0 : mOK mi ma) : Met l yX2_move wsX2_move ({ frames := 2, cells := 0, slots := 0, locals := 43 }) (zPc D cy A [.ref (ad 0), .int (iI (p)), .int (iI (a))] H0) (zQi (fun z H1 => ∃ (c : Int) (mb : Nat → Nat → Int), zW D A ad (mE cy ad (va_up mi 0 c) mb) H1 ∧ c = (if isP ma p then (if 0 ≤ a ∧ a ≤ 900 then 0 else 2) else 1) ∧ ((c ≠ 0 ∧ mb = ma) ∨ (c = 0 ∧ z = ma 8 p.toNat ∧ mb = va_up ma 8 (va_up (ma 8) p.toNat a)))) A) 0 0 A := by
  refine Met.ofW (cc := cX2_move) (maxL := 4) (ret := (some .int)) (by decide) rfl ?_
  intro pg en s mt args below meth c s₁ B hml hv
  obtain ⟨rfl, hH, hE⟩ := hv
  subst hH
  have hx := B.exec
  have hb := B.bytes
  have hr := B.returns
  have hts := atoms_spec (ws := wsX2_move) B.pre
  have hown : s.vm.findClass RX2 = some mt.cls := findClass_of_methodNamed B.named
  have hlocks := B.notSynchronized
  have hinX2 : ∀ w ∈ u_ws RX2 TX2 19, w ∈ wsX2_move := by decide +kernel
  have hS : va_S A s.heap s.heap [] := va_S.rf
  have hl := lv_entry ([.ref (ad 0), .int (iI (p)), .int (iI (a))]) (n := 4) (Nat.le_of_ble_eq_true rfl)
  rw [lg_entry_eq]
  generalize (lg_sl ([.ref (ad 0), .int (iI (p)), .int (iI (a))]) ++ List.replicate (4 - (lg_sl ([.ref (ad 0), .int (iI (p)), .int (iI (a))])).length) Slot.unset).toArray = ls at hl ⊢
  have hl : lv_has ls 4 [(0, .ref (ad 0)), (1, .int (iI (p))), (2, .int (iI (a)))] := hl
  obtain ⟨ht, hg, hb7, hpo⟩ := id hm0
  refine lv_aload_n hx hb dX2_move_0 rfl (lv_at hl 0 rfl) ?_
  refine lv_aload_n hx hb dX2_move_1 rfl (lv_at hl 0 rfl) ?_
  refine lv_iload_n hx hb dX2_move_2 rfl (lv_at hl 1 rfl) ?_
  refine zcalli (va_runV (As := [.int (iI (p))]) (rest := [.ref (ad 0)]) ⟨hx, hb, hml, hown, hts⟩ (c_X2_isPour l D cy A ad mi ma _ (p) hw (by first | decide | (constructor <;> omega)) hb7) (cwV 1 hts gX2_move_X2_isPour rfl rfl rfl (by decide +kernel) ⟨(Nat.le_of_ble_eq_true rfl), (Nat.le_of_ble_eq_true rfl)⟩) (zPV hE hS hw (ci := 2) (k0 := 0) rfl mE_0) rfl rfl hl.1 rfl (lv_room (Nat.le_of_ble_eq_true rfl)) dX2_move_3 ⟨(Nat.le_of_ble_eq_true rfl), (Nat.le_of_ble_eq_true rfl)⟩) hS (fun z_3 H1 locs hz_3 hq hz1 hk1 hS => ?_)
  obtain ⟨hqe, hv_3⟩ := hq
  replace hqe := hqe.symm
  subst hqe
  refine zf_ne (tgt := 13) hx hb dX2_move_6 (by decide) (by first | decide | (constructor <;> omega)) (fun c_6 => ?_) (fun c_6 => ?_)
  · refine lv_iload_n hx hb dX2_move_13 rfl (lv_at hl 2 rfl) ?_
    refine zi_const hx hb dX2_move_14 ?_
    refine zi_sipush hx hb dX2_move_15 (by decide) ?_
    refine zcalli (va_runS (As := [.int (iI (a)), .int (iI (0)), .int (iI (900))]) (rest := [.ref (ad 0)]) ⟨hx, hb, hml, hown, hts⟩ (c_X2_in l D cy A ad _ (a) (0) (900) (by first | decide | (constructor <;> omega)) (by first | decide | (constructor <;> omega)) (by first | decide | (constructor <;> omega))) (va_cwS 3 hts gX2_move_X2_in rfl rfl rfl (by decide +kernel) ⟨(Nat.le_of_ble_eq_true rfl), (Nat.le_of_ble_eq_true rfl)⟩) (zPS hE hS) rfl rfl hl.1 rfl (lv_room (Nat.le_of_ble_eq_true rfl)) dX2_move_18 ⟨(Nat.le_of_ble_eq_true rfl), (Nat.le_of_ble_eq_true rfl)⟩) hS (fun z_18 H1 locs hz_18 hq hz1 hk1 hS => ?_)
    obtain ⟨hqe, hv_18⟩ := hq
    replace hqe := hqe.symm
    subst hqe
    refine zf_eq (tgt := 28) hx hb dX2_move_21 (by decide) (by first | decide | (constructor <;> omega)) (fun c_21 => ?_) (fun c_21 => ?_)
    · refine zi_const hx hb dX2_move_28 ?_
      refine zput (C := RX2) (T := TX2) (N := 19) hx hb hts hinX2 tyX2 tyX2_ok nmX2 hown hE hS hw 0 mE_0 rfl 0 (by decide) (hts (.fieldLink RX2 66 "FormworkYardModel" "thrown" "I") (by decide +kernel)) rfl (ty := .int) (by decide +kernel) rfl rfl (Nat.le_of_ble_eq_true rfl) dX2_move_29 (fun H locs hw hS => ?_)
      have hw := hw.cong (mU_i 0 (by decide) (2))
      refine lv_aload_n hx hb dX2_move_32 rfl (lv_at hl 0 rfl) ?_
      refine zget (C := RX2) (T := TX2) (N := 19) hx hb hts hinX2 hown hE hw 0 mE_0 rfl 0 (by decide) (hts (.fieldLink RX2 66 "FormworkYardModel" "thrown" "I") (by decide +kernel)) rfl dX2_move_33 ?_
      refine zi_top (fun v_33 hv_33 => ?_)
      simp [va_up] at hv_33
      subst hv_33
      refine zf_le (tgt := 41) hx hb dX2_move_36 (by decide) (by first | decide | (constructor <;> omega)) (fun c_36 => ?_) (fun c_36 => ?_)
      · exfalso; omega
      · refine zi_const hx hb dX2_move_39 ?_
        refine ziret hx hb hr hlocks hS (Nat.le_of_ble_eq_true rfl) (Nat.le_of_ble_eq_true rfl) (by first | decide | (constructor <;> omega)) ?_ dX2_move_40
        refine ⟨_, _, hw, by unfold isP; (repeat' split) <;> omega, ?_⟩
        exact Or.inl ⟨by decide, rfl⟩
    · refine zi_const hx hb dX2_move_24 ?_
      refine lv_goto (tgt := 29) hx hb dX2_move_25 (by decide) ?_
      refine zput (C := RX2) (T := TX2) (N := 19) hx hb hts hinX2 tyX2 tyX2_ok nmX2 hown hE hS hw 0 mE_0 rfl 0 (by decide) (hts (.fieldLink RX2 66 "FormworkYardModel" "thrown" "I") (by decide +kernel)) rfl (ty := .int) (by decide +kernel) rfl rfl (Nat.le_of_ble_eq_true rfl) dX2_move_29 (fun H locs hw hS => ?_)
      have hw := hw.cong (mU_i 0 (by decide) (0))
      refine lv_aload_n hx hb dX2_move_32 rfl (lv_at hl 0 rfl) ?_
      refine zget (C := RX2) (T := TX2) (N := 19) hx hb hts hinX2 hown hE hw 0 mE_0 rfl 0 (by decide) (hts (.fieldLink RX2 66 "FormworkYardModel" "thrown" "I") (by decide +kernel)) rfl dX2_move_33 ?_
      refine zi_top (fun v_33 hv_33 => ?_)
      simp [va_up] at hv_33
      subst hv_33
      refine zf_le (tgt := 41) hx hb dX2_move_36 (by decide) (by first | decide | (constructor <;> omega)) (fun c_36 => ?_) (fun c_36 => ?_)
      · have hP := hpo p.toNat (by omega) (by omega)
        obtain ⟨q1, q2, q3, q4, q5, q6⟩ := hP
        refine lv_aload_n hx hb dX2_move_41 rfl (lv_at hl 0 rfl) ?_
        refine zget (C := RX2) (T := TX2) (N := 19) hx hb hts hinX2 hown hE hw 0 mE_0 rfl 8 (by decide) (hts (.fieldLink RX2 33 "FormworkYardModel" "starts" "[I") (by decide +kernel)) rfl dX2_move_42 ?_
        refine lv_iload_n hx hb dX2_move_45 rfl (lv_at hl 1 rfl) ?_
        refine ziald hx hb hE hw 8 (mE_a 8 (by decide) rfl) (p).toNat (by omega) (by omega) (by omega) dX2_move_46 ?_
        refine zi_top (fun v_46 hv_46 => ?_)
        refine lv_istore_n (lv' := [(3, .int (iI (v_46))), (0, .ref (ad 0)), (1, .int (iI (p))), (2, .int (iI (a)))]) hx hb dX2_move_47 rfl hl (by decide) rfl (fun ls hl => ?_)
        refine lv_aload_n hx hb dX2_move_48 rfl (lv_at hl 1 rfl) ?_
        refine zget (C := RX2) (T := TX2) (N := 19) hx hb hts hinX2 hown hE hw 0 mE_0 rfl 8 (by decide) (hts (.fieldLink RX2 33 "FormworkYardModel" "starts" "[I") (by decide +kernel)) rfl dX2_move_49 ?_
        refine lv_iload_n hx hb dX2_move_52 rfl (lv_at hl 2 rfl) ?_
        refine lv_iload_n hx hb dX2_move_53 rfl (lv_at hl 3 rfl) ?_
        refine ziast hx hb hE hS hw 8 (mE_a 8 (by decide) rfl) (p).toNat (by omega) (by omega) (by omega) dX2_move_54 (fun H locs hw hS => ?_)
        have hw := hw.cong (mU_a 8 (by decide) rfl ((p).toNat) (a))
        obtain ⟨ma_1, hma_1⟩ : ∃ z : Nat → Nat → Int, z = (va_up ma 8 (va_up (ma 8) ((p).toNat) (a))) := ⟨_, rfl⟩
        rw [← hma_1] at hw
        refine lv_iload_n hx hb dX2_move_55 rfl (lv_at hl 0 rfl) ?_
        refine ziret hx hb hr hlocks hS (Nat.le_of_ble_eq_true rfl) (Nat.le_of_ble_eq_true rfl) (by first | decide | (constructor <;> omega)) ?_ dX2_move_56
        refine ⟨_, _, hw, by unfold isP; (repeat' split) <;> omega, ?_⟩
        exact Or.inr ⟨rfl, by omega, by assumption⟩
      · exfalso; omega
  · refine zi_const hx hb dX2_move_9 ?_
    refine lv_goto (tgt := 29) hx hb dX2_move_10 (by decide) ?_
    refine zput (C := RX2) (T := TX2) (N := 19) hx hb hts hinX2 tyX2 tyX2_ok nmX2 hown hE hS hw 0 mE_0 rfl 0 (by decide) (hts (.fieldLink RX2 66 "FormworkYardModel" "thrown" "I") (by decide +kernel)) rfl (ty := .int) (by decide +kernel) rfl rfl (Nat.le_of_ble_eq_true rfl) dX2_move_29 (fun H locs hw hS => ?_)
    have hw := hw.cong (mU_i 0 (by decide) (1))
    refine lv_aload_n hx hb dX2_move_32 rfl (lv_at hl 0 rfl) ?_
    refine zget (C := RX2) (T := TX2) (N := 19) hx hb hts hinX2 hown hE hw 0 mE_0 rfl 0 (by decide) (hts (.fieldLink RX2 66 "FormworkYardModel" "thrown" "I") (by decide +kernel)) rfl dX2_move_33 ?_
    refine zi_top (fun v_33 hv_33 => ?_)
    simp [va_up] at hv_33
    subst hv_33
    refine zf_le (tgt := 41) hx hb dX2_move_36 (by decide) (by first | decide | (constructor <;> omega)) (fun c_36 => ?_) (fun c_36 => ?_)
    · exfalso; omega
    · refine zi_const hx hb dX2_move_39 ?_
      refine ziret hx hb hr hlocks hS (Nat.le_of_ble_eq_true rfl) (Nat.le_of_ble_eq_true rfl) (by first | decide | (constructor <;> omega)) ?_ dX2_move_40
      refine ⟨_, _, hw, by unfold isP; (repeat' split) <;> omega, ?_⟩
      exact Or.inl ⟨by decide, rfl⟩

set_option maxHeartbeats 4000000 in
set_option maxRecDepth 100000 in
theorem c_X2_cancel (l : Launch) (D : va_G) (cy : Nat → ClassId) (A : Nat → Prop) (ad : Nat → Nat) (mi : Nat → Int) (ma : Nat → Nat → Int) (H0 : Heap) (p : Int) (hw : zW D A ad (mE cy ad mi ma) H0) (h1 : zr p) (hm0 : mOK mi ma) : Met l yX2_cancel wsX2_cancel ({ frames := 2, cells := 0, slots := 0, locals := 43 }) (zPc D cy A [.ref (ad 0), .int (iI (p))] H0) (zQi (fun z H1 => ∃ (c : Int) (mb : Nat → Nat → Int), zW D A ad (mE cy ad (va_up mi 0 c) mb) H1 ∧ c = (if isP ma p then 0 else 1) ∧ ((c ≠ 0 ∧ mb = ma) ∨ (c = 0 ∧ z = ma 10 p.toNat ∧ mb = va_up ma 7 (va_up (ma 7) p.toNat 0)))) A) 0 0 A := by
  refine Met.ofW (cc := cX2_cancel) (maxL := 2) (ret := (some .int)) (by decide) rfl ?_
  intro pg en s mt args below meth c s₁ B hml hv
  obtain ⟨rfl, hH, hE⟩ := hv
  subst hH
  have hx := B.exec
  have hb := B.bytes
  have hr := B.returns
  have hts := atoms_spec (ws := wsX2_cancel) B.pre
  have hown : s.vm.findClass RX2 = some mt.cls := findClass_of_methodNamed B.named
  have hlocks := B.notSynchronized
  have hinX2 : ∀ w ∈ u_ws RX2 TX2 19, w ∈ wsX2_cancel := by decide +kernel
  have hS : va_S A s.heap s.heap [] := va_S.rf
  have hl := lv_entry ([.ref (ad 0), .int (iI (p))]) (n := 2) (Nat.le_of_ble_eq_true rfl)
  rw [lg_entry_eq]
  generalize (lg_sl ([.ref (ad 0), .int (iI (p))]) ++ List.replicate (2 - (lg_sl ([.ref (ad 0), .int (iI (p))])).length) Slot.unset).toArray = ls at hl ⊢
  have hl : lv_has ls 2 [(0, .ref (ad 0)), (1, .int (iI (p)))] := hl
  obtain ⟨ht, hg, hb7, hpo⟩ := id hm0
  refine lv_aload_n hx hb dX2_cancel_0 rfl (lv_at hl 0 rfl) ?_
  refine lv_aload_n hx hb dX2_cancel_1 rfl (lv_at hl 0 rfl) ?_
  refine lv_iload_n hx hb dX2_cancel_2 rfl (lv_at hl 1 rfl) ?_
  refine zcalli (va_runV (As := [.int (iI (p))]) (rest := [.ref (ad 0)]) ⟨hx, hb, hml, hown, hts⟩ (c_X2_isPour l D cy A ad mi ma _ (p) hw (by first | decide | (constructor <;> omega)) hb7) (cwV 1 hts gX2_cancel_X2_isPour rfl rfl rfl (by decide +kernel) ⟨(Nat.le_of_ble_eq_true rfl), (Nat.le_of_ble_eq_true rfl)⟩) (zPV hE hS hw (ci := 2) (k0 := 0) rfl mE_0) rfl rfl hl.1 rfl (lv_room (Nat.le_of_ble_eq_true rfl)) dX2_cancel_3 ⟨(Nat.le_of_ble_eq_true rfl), (Nat.le_of_ble_eq_true rfl)⟩) hS (fun z_3 H1 locs hz_3 hq hz1 hk1 hS => ?_)
  obtain ⟨hqe, hv_3⟩ := hq
  replace hqe := hqe.symm
  subst hqe
  refine zf_eq (tgt := 13) hx hb dX2_cancel_6 (by decide) (by first | decide | (constructor <;> omega)) (fun c_6 => ?_) (fun c_6 => ?_)
  · refine zi_const hx hb dX2_cancel_13 ?_
    refine zput (C := RX2) (T := TX2) (N := 19) hx hb hts hinX2 tyX2 tyX2_ok nmX2 hown hE hS hw 0 mE_0 rfl 0 (by decide) (hts (.fieldLink RX2 66 "FormworkYardModel" "thrown" "I") (by decide +kernel)) rfl (ty := .int) (by decide +kernel) rfl rfl (Nat.le_of_ble_eq_true rfl) dX2_cancel_14 (fun H locs hw hS => ?_)
    have hw := hw.cong (mU_i 0 (by decide) (1))
    refine lv_aload_n hx hb dX2_cancel_17 rfl (lv_at hl 0 rfl) ?_
    refine zget (C := RX2) (T := TX2) (N := 19) hx hb hts hinX2 hown hE hw 0 mE_0 rfl 0 (by decide) (hts (.fieldLink RX2 66 "FormworkYardModel" "thrown" "I") (by decide +kernel)) rfl dX2_cancel_18 ?_
    refine zi_top (fun v_18 hv_18 => ?_)
    simp [va_up] at hv_18
    subst hv_18
    refine zf_le (tgt := 26) hx hb dX2_cancel_21 (by decide) (by first | decide | (constructor <;> omega)) (fun c_21 => ?_) (fun c_21 => ?_)
    · exfalso; omega
    · refine zi_const hx hb dX2_cancel_24 ?_
      refine ziret hx hb hr hlocks hS (Nat.le_of_ble_eq_true rfl) (Nat.le_of_ble_eq_true rfl) (by first | decide | (constructor <;> omega)) ?_ dX2_cancel_25
      refine ⟨_, _, hw, by unfold isP; (repeat' split) <;> omega, ?_⟩
      exact Or.inl ⟨by decide, rfl⟩
  · refine zi_const hx hb dX2_cancel_9 ?_
    refine lv_goto (tgt := 14) hx hb dX2_cancel_10 (by decide) ?_
    refine zput (C := RX2) (T := TX2) (N := 19) hx hb hts hinX2 tyX2 tyX2_ok nmX2 hown hE hS hw 0 mE_0 rfl 0 (by decide) (hts (.fieldLink RX2 66 "FormworkYardModel" "thrown" "I") (by decide +kernel)) rfl (ty := .int) (by decide +kernel) rfl rfl (Nat.le_of_ble_eq_true rfl) dX2_cancel_14 (fun H locs hw hS => ?_)
    have hw := hw.cong (mU_i 0 (by decide) (0))
    refine lv_aload_n hx hb dX2_cancel_17 rfl (lv_at hl 0 rfl) ?_
    refine zget (C := RX2) (T := TX2) (N := 19) hx hb hts hinX2 hown hE hw 0 mE_0 rfl 0 (by decide) (hts (.fieldLink RX2 66 "FormworkYardModel" "thrown" "I") (by decide +kernel)) rfl dX2_cancel_18 ?_
    refine zi_top (fun v_18 hv_18 => ?_)
    simp [va_up] at hv_18
    subst hv_18
    refine zf_le (tgt := 26) hx hb dX2_cancel_21 (by decide) (by first | decide | (constructor <;> omega)) (fun c_21 => ?_) (fun c_21 => ?_)
    · have hP := hpo p.toNat (by omega) (by omega)
      obtain ⟨q1, q2, q3, q4, q5, q6⟩ := hP
      refine lv_aload_n hx hb dX2_cancel_26 rfl (lv_at hl 0 rfl) ?_
      refine zget (C := RX2) (T := TX2) (N := 19) hx hb hts hinX2 hown hE hw 0 mE_0 rfl 7 (by decide) (hts (.fieldLink RX2 29 "FormworkYardModel" "isThere" "[Z") (by decide +kernel)) rfl dX2_cancel_27 ?_
      refine lv_iload_n hx hb dX2_cancel_30 rfl (lv_at hl 1 rfl) ?_
      refine zi_const hx hb dX2_cancel_31 ?_
      refine zzast hx hb hE hS hw 7 (mE_a 7 (by decide) rfl) (by omega) (p).toNat (by omega) (by omega) (by omega) dX2_cancel_32 (fun H locs hw hS => ?_)
      have hw := hw.cong (mU_a 7 (by decide) rfl ((p).toNat) (0))
      obtain ⟨ma_1, hma_1⟩ : ∃ z : Nat → Nat → Int, z = (va_up ma 7 (va_up (ma 7) ((p).toNat) (0))) := ⟨_, rfl⟩
      rw [← hma_1] at hw
      refine lv_aload_n hx hb dX2_cancel_33 rfl (lv_at hl 0 rfl) ?_
      refine zget (C := RX2) (T := TX2) (N := 19) hx hb hts hinX2 hown hE hw 0 mE_0 rfl 10 (by decide) (hts (.fieldLink RX2 39 "FormworkYardModel" "needs" "[I") (by decide +kernel)) rfl dX2_cancel_34 ?_
      refine lv_iload_n hx hb dX2_cancel_37 rfl (lv_at hl 1 rfl) ?_
      refine ziald hx hb hE hw 10 (mE_a 10 (by decide) rfl) (p).toNat (by omega) (by omega) (by omega) dX2_cancel_38 ?_
      refine zi_top (fun v_38 hv_38 => ?_)
      have hv38 : v_38 = ma 10 p.toNat := by rw [hv_38]; simp only [*, va_up]; rw [if_neg (by decide)]
      refine ziret hx hb hr hlocks hS (Nat.le_of_ble_eq_true rfl) (Nat.le_of_ble_eq_true rfl) (by first | decide | (constructor <;> omega)) ?_ dX2_cancel_39
      refine ⟨_, _, hw, by unfold isP; (repeat' split) <;> omega, ?_⟩
      exact Or.inr ⟨rfl, by omega, by assumption⟩
    · exfalso; omega

set_option maxHeartbeats 4000000 in
set_option maxRecDepth 100000 in
theorem c_X2_pours (l : Launch) (D : va_G) (cy : Nat → ClassId) (A : Nat → Prop) (ad : Nat → Nat) (mi : Nat → Int) (ma : Nat → Nat → Int) (H0 : Heap) (hw : zW D A ad (mE cy ad mi ma) H0) (hb7 : ∀ j, j < 11 → ma 7 j = 0 ∨ ma 7 j = 1) : Met l yX2_pours wsX2_pours ({ frames := 0, cells := 0, slots := 0, locals := 0 }) (zPc D cy A [.ref (ad 0)] H0) (zQi (fun z H1 => zW D A ad (mE cy ad (va_up mi 0 0) ma) H1 ∧ z = sl (ma 7) 10) A) 0 0 A := by
  refine Met.ofW (cc := cX2_pours) (maxL := 3) (ret := (some .int)) (by decide) rfl ?_
  intro pg en s mt args below meth c s₁ B hml hv
  obtain ⟨rfl, hH, hE⟩ := hv
  subst hH
  have hx := B.exec
  have hb := B.bytes
  have hr := B.returns
  have hts := atoms_spec (ws := wsX2_pours) B.pre
  have hown : s.vm.findClass RX2 = some mt.cls := findClass_of_methodNamed B.named
  have hlocks := B.notSynchronized
  have hinX2 : ∀ w ∈ u_ws RX2 TX2 19, w ∈ wsX2_pours := by decide +kernel
  have hS : va_S A s.heap s.heap [] := va_S.rf
  have hl := lv_entry ([.ref (ad 0)]) (n := 3) (Nat.le_of_ble_eq_true rfl)
  rw [lg_entry_eq]
  generalize (lg_sl ([.ref (ad 0)]) ++ List.replicate (3 - (lg_sl ([.ref (ad 0)])).length) Slot.unset).toArray = ls at hl ⊢
  have hl : lv_has ls 3 [(0, .ref (ad 0))] := hl
  refine lv_aload_n hx hb dX2_pours_0 rfl (lv_at hl 0 rfl) ?_
  refine zi_const hx hb dX2_pours_1 ?_
  refine zput (C := RX2) (T := TX2) (N := 19) hx hb hts hinX2 tyX2 tyX2_ok nmX2 hown hE hS hw 0 mE_0 rfl 0 (by decide) (hts (.fieldLink RX2 66 "FormworkYardModel" "thrown" "I") (by decide +kernel)) rfl (ty := .int) (by decide +kernel) rfl rfl (Nat.le_of_ble_eq_true rfl) dX2_pours_2 (fun H locs hw hS => ?_)
  have hw := hw.cong (mU_i 0 (by decide) (0))
  refine zi_const hx hb dX2_pours_5 ?_
  refine lv_istore_n (lv' := [(1, .int (iI (0))), (0, .ref (ad 0))]) hx hb dX2_pours_6 rfl hl (by decide) rfl (fun ls hl => ?_)
  refine zi_const hx hb dX2_pours_7 ?_
  refine lv_istore_n (lv' := [(2, .int (iI (0))), (1, .int (iI (0))), (0, .ref (ad 0))]) hx hb dX2_pours_8 rfl hl (by decide) rfl (fun ls hl => ?_)
  have loop_9 : ∀ (n : Nat) (p : Nat) (w : Int) (H : Heap) (locs : List Loc) (ls : Array Slot), 10 - p < n → (p ≤ 10) → (w = sl (ma 7) p) → zW D A ad (mE cy ad (va_up mi 0 (0)) ma) H → va_S A s.heap H locs → lv_has ls 3 [(2, .int (iI ((p : Int)))), (1, .int (iI (w))), (0, .ref (ad 0))] → W pg l en (headSpec wsX2_pours ({ frames := 0, cells := 0, slots := 0, locals := 0 })).room s mt ([.ref (ad 0)] : List Value).toArray below meth c H locs 0 0 (MQ below (zQi (fun z H1 => zW D A ad (mE cy ad (va_up mi 0 0) ma) H1 ∧ z = sl (ma 7) 10) A) ([.ref (ad 0)] : List Value).toArray s 0 0 A) (F0 mt 9 ls []) := by
    intro n
    induction n with
    | zero =>
      intro p w H locs ls hm hp10 hk
      exfalso; omega
    | succ n ih =>
      intro p w H locs ls hm hp10 hk hw hS hl
      have hbb := sl_b (f := ma 7) (a := 0) (b := 1) (n := p) (fun i hi => by have := hb7 i (by omega); omega)
      refine lv_iload_n hx hb dX2_pours_9 rfl (lv_at hl 0 rfl) ?_
      refine zi_bipush hx hb dX2_pours_10 (by decide) ?_
      refine zc_ge (tgt := 38) hx hb dX2_pours_12 (by decide) (by first | decide | (constructor <;> omega)) (by first | decide | (constructor <;> omega)) (fun c_12 => ?_) (fun c_12 => ?_)
      · refine lv_iload_n hx hb dX2_pours_38 rfl (lv_at hl 1 rfl) ?_
        refine ziret hx hb hr hlocks hS (Nat.le_of_ble_eq_true rfl) (Nat.le_of_ble_eq_true rfl) (by first | decide | (constructor <;> omega)) ?_ dX2_pours_39
        exact ⟨hw, by rw [hk, show p = 10 by omega]⟩
      · refine lv_iload_n hx hb dX2_pours_15 rfl (lv_at hl 1 rfl) ?_
        refine lv_aload_n hx hb dX2_pours_16 rfl (lv_at hl 2 rfl) ?_
        refine zget (C := RX2) (T := TX2) (N := 19) hx hb hts hinX2 hown hE hw 0 mE_0 rfl 7 (by decide) (hts (.fieldLink RX2 29 "FormworkYardModel" "isThere" "[Z") (by decide +kernel)) rfl dX2_pours_17 ?_
        refine lv_iload_n hx hb dX2_pours_20 rfl (lv_at hl 0 rfl) ?_
        refine zzald hx hb hE hw 7 (mE_a 7 (by decide) rfl) p rfl (by omega) (by omega) dX2_pours_21 ?_
        refine zi_top (fun v_21 hv_21 => ?_)
        have hB := hb7 p (by omega)
        refine zf_eq (tgt := 29) hx hb dX2_pours_22 (by decide) (by first | decide | (constructor <;> omega)) (fun c_22 => ?_) (fun c_22 => ?_)
        · refine zi_const hx hb dX2_pours_29 ?_
          refine zi_add hx hb dX2_pours_30 ?_
          refine zi_top (fun x_31 hx_31 => ?_)
          refine lv_istore_n (lv' := [(1, .int (iI (x_31))), (2, .int (iI ((p : Int)))), (0, .ref (ad 0))]) hx hb dX2_pours_31 rfl hl (by decide) rfl (fun ls hl => ?_)
          refine zi_iinc (lv' := [(2, .int (iI ((p : Int) + 1))), (1, .int (iI (x_31))), (0, .ref (ad 0))]) hx hb dX2_pours_32 hl (k := 1) rfl (by decide) rfl (fun ls hl => ?_)
          refine lv_goto (tgt := 9) hx hb dX2_pours_35 (by decide) ?_
          exact ih (p + 1) x_31 _ _ _ (by omega) (by omega) (by simp only [sl]; omega) hw hS (lv_sub hl [0, 1, 2] rfl)
        · refine zi_const hx hb dX2_pours_25 ?_
          refine lv_goto (tgt := 30) hx hb dX2_pours_26 (by decide) ?_
          refine zi_add hx hb dX2_pours_30 ?_
          refine zi_top (fun x_31 hx_31 => ?_)
          refine lv_istore_n (lv' := [(1, .int (iI (x_31))), (2, .int (iI ((p : Int)))), (0, .ref (ad 0))]) hx hb dX2_pours_31 rfl hl (by decide) rfl (fun ls hl => ?_)
          refine zi_iinc (lv' := [(2, .int (iI ((p : Int) + 1))), (1, .int (iI (x_31))), (0, .ref (ad 0))]) hx hb dX2_pours_32 hl (k := 1) rfl (by decide) rfl (fun ls hl => ?_)
          refine lv_goto (tgt := 9) hx hb dX2_pours_35 (by decide) ?_
          exact ih (p + 1) x_31 _ _ _ (by omega) (by omega) (by simp only [sl]; omega) hw hS (lv_sub hl [0, 1, 2] rfl)
  exact loop_9 11 0 0 _ _ _ (by omega) (by omega) rfl hw hS (lv_sub hl [0, 1, 2] rfl)

set_option maxHeartbeats 4000000 in
set_option maxRecDepth 100000 in
theorem c_X2_isAsked (l : Launch) (D : va_G) (cy : Nat → ClassId) (A : Nat → Prop) (ad : Nat → Nat) (mi : Nat → Int) (ma : Nat → Nat → Int) (H0 : Heap) (p : Int) (hw : zW D A ad (mE cy ad mi ma) H0) (h1 : zr p) (hm0 : mOK mi ma) : Met l yX2_isAsked wsX2_isAsked ({ frames := 4, cells := 0, slots := 0, locals := 87 }) (zPc D cy A [.ref (ad 0), .int (iI (p))] H0) (zQi (fun z H1 => ∃ (c : Int) (mb : Nat → Nat → Int), zW D A ad (mE cy ad (va_up mi 0 c) mb) H1 ∧ c = (if isP ma p then 0 else 1) ∧ z = 1 - c ∧ ((c ≠ 0 ∧ mb = ma) ∨ (c = 0 ∧ isP ma p ∧ wU p.toNat ma mb ∧ wV mi ma p.toNat mb))) A) 0 0 A := by
  refine Met.ofW (cc := cX2_isAsked) (maxL := 2) (ret := (some .boolean)) (by decide) rfl ?_
  intro pg en s mt args below meth c s₁ B hml hv
  obtain ⟨rfl, hH, hE⟩ := hv
  subst hH
  have hx := B.exec
  have hb := B.bytes
  have hr := B.returns
  have hts := atoms_spec (ws := wsX2_isAsked) B.pre
  have hown : s.vm.findClass RX2 = some mt.cls := findClass_of_methodNamed B.named
  have hlocks := B.notSynchronized
  have hinX2 : ∀ w ∈ u_ws RX2 TX2 19, w ∈ wsX2_isAsked := by decide +kernel
  have hS : va_S A s.heap s.heap [] := va_S.rf
  have hl := lv_entry ([.ref (ad 0), .int (iI (p))]) (n := 2) (Nat.le_of_ble_eq_true rfl)
  rw [lg_entry_eq]
  generalize (lg_sl ([.ref (ad 0), .int (iI (p))]) ++ List.replicate (2 - (lg_sl ([.ref (ad 0), .int (iI (p))])).length) Slot.unset).toArray = ls at hl ⊢
  have hl : lv_has ls 2 [(0, .ref (ad 0)), (1, .int (iI (p)))] := hl
  obtain ⟨ht, hg, hb7, hpo⟩ := id hm0
  refine lv_aload_n hx hb dX2_isAsked_0 rfl (lv_at hl 0 rfl) ?_
  refine lv_aload_n hx hb dX2_isAsked_1 rfl (lv_at hl 0 rfl) ?_
  refine lv_iload_n hx hb dX2_isAsked_2 rfl (lv_at hl 1 rfl) ?_
  refine zcalli (va_runV (As := [.int (iI (p))]) (rest := [.ref (ad 0)]) ⟨hx, hb, hml, hown, hts⟩ (c_X2_isPour l D cy A ad mi ma _ (p) hw (by first | decide | (constructor <;> omega)) hb7) (cwV 1 hts gX2_isAsked_X2_isPour rfl rfl rfl (by decide +kernel) ⟨(Nat.le_of_ble_eq_true rfl), (Nat.le_of_ble_eq_true rfl)⟩) (zPV hE hS hw (ci := 2) (k0 := 0) rfl mE_0) rfl rfl hl.1 rfl (lv_room (Nat.le_of_ble_eq_true rfl)) dX2_isAsked_3 ⟨(Nat.le_of_ble_eq_true rfl), (Nat.le_of_ble_eq_true rfl)⟩) hS (fun z_3 H1 locs hz_3 hq hz1 hk1 hS => ?_)
  obtain ⟨hqe, hv_3⟩ := hq
  replace hqe := hqe.symm
  subst hqe
  refine zf_eq (tgt := 13) hx hb dX2_isAsked_6 (by decide) (by first | decide | (constructor <;> omega)) (fun c_6 => ?_) (fun c_6 => ?_)
  · refine zi_const hx hb dX2_isAsked_13 ?_
    refine zput (C := RX2) (T := TX2) (N := 19) hx hb hts hinX2 tyX2 tyX2_ok nmX2 hown hE hS hw 0 mE_0 rfl 0 (by decide) (hts (.fieldLink RX2 66 "FormworkYardModel" "thrown" "I") (by decide +kernel)) rfl (ty := .int) (by decide +kernel) rfl rfl (Nat.le_of_ble_eq_true rfl) dX2_isAsked_14 (fun H locs hw hS => ?_)
    have hw := hw.cong (mU_i 0 (by decide) (1))
    refine lv_aload_n hx hb dX2_isAsked_17 rfl (lv_at hl 0 rfl) ?_
    refine zget (C := RX2) (T := TX2) (N := 19) hx hb hts hinX2 hown hE hw 0 mE_0 rfl 0 (by decide) (hts (.fieldLink RX2 66 "FormworkYardModel" "thrown" "I") (by decide +kernel)) rfl dX2_isAsked_18 ?_
    refine zi_top (fun v_18 hv_18 => ?_)
    simp [va_up] at hv_18
    subst hv_18
    refine zf_ne (tgt := 29) hx hb dX2_isAsked_21 (by decide) (by first | decide | (constructor <;> omega)) (fun c_21 => ?_) (fun c_21 => ?_)
    · refine lv_aload_n hx hb dX2_isAsked_29 rfl (lv_at hl 0 rfl) ?_
      refine zget (C := RX2) (T := TX2) (N := 19) hx hb hts hinX2 hown hE hw 0 mE_0 rfl 0 (by decide) (hts (.fieldLink RX2 66 "FormworkYardModel" "thrown" "I") (by decide +kernel)) rfl dX2_isAsked_30 ?_
      refine zi_top (fun v_30 hv_30 => ?_)
      simp [va_up] at hv_30
      subst hv_30
      refine zf_ne (tgt := 40) hx hb dX2_isAsked_33 (by decide) (by first | decide | (constructor <;> omega)) (fun c_33 => ?_) (fun c_33 => ?_)
      · refine zi_const hx hb dX2_isAsked_40 ?_
        refine zzret hx hb hr hlocks hS (Nat.le_of_ble_eq_true rfl) (Nat.le_of_ble_eq_true rfl) (by omega) ?_ dX2_isAsked_41
        refine ⟨_, _, hw, by unfold isP; (repeat' split) <;> omega, by omega, ?_⟩
        exact Or.inl ⟨by decide, rfl⟩
      · exfalso; omega
    · exfalso; omega
  · refine zi_const hx hb dX2_isAsked_9 ?_
    refine lv_goto (tgt := 14) hx hb dX2_isAsked_10 (by decide) ?_
    refine zput (C := RX2) (T := TX2) (N := 19) hx hb hts hinX2 tyX2 tyX2_ok nmX2 hown hE hS hw 0 mE_0 rfl 0 (by decide) (hts (.fieldLink RX2 66 "FormworkYardModel" "thrown" "I") (by decide +kernel)) rfl (ty := .int) (by decide +kernel) rfl rfl (Nat.le_of_ble_eq_true rfl) dX2_isAsked_14 (fun H locs hw hS => ?_)
    have hw := hw.cong (mU_i 0 (by decide) (0))
    refine lv_aload_n hx hb dX2_isAsked_17 rfl (lv_at hl 0 rfl) ?_
    refine zget (C := RX2) (T := TX2) (N := 19) hx hb hts hinX2 hown hE hw 0 mE_0 rfl 0 (by decide) (hts (.fieldLink RX2 66 "FormworkYardModel" "thrown" "I") (by decide +kernel)) rfl dX2_isAsked_18 ?_
    refine zi_top (fun v_18 hv_18 => ?_)
    simp [va_up] at hv_18
    subst hv_18
    refine zf_ne (tgt := 29) hx hb dX2_isAsked_21 (by decide) (by first | decide | (constructor <;> omega)) (fun c_21 => ?_) (fun c_21 => ?_)
    · exfalso; omega
    · obtain ⟨k, hkp_k⟩ : ∃ k : Nat, p = k := ⟨(p).toNat, by omega⟩
      rw [hkp_k] at hl
      have hkt_k : (p).toNat = k := by omega
      refine lv_aload_n hx hb dX2_isAsked_24 rfl (lv_at hl 0 rfl) ?_
      refine lv_iload_n hx hb dX2_isAsked_25 rfl (lv_at hl 1 rfl) ?_
      refine zcallv (va_runV (As := [.int (iI ((k : Int)))]) (rest := []) ⟨hx, hb, hml, hown, hts⟩ (c_X2_works l D cy A ad (va_up mi 0 (0)) ma _ k hw (by omega) ht (gOK_0.mpr hg) (hpo k (by omega) (by rw [← hkt_k]; omega))) (cwV 1 hts gX2_isAsked_X2_works rfl rfl rfl (by decide +kernel) ⟨(Nat.le_of_ble_eq_true rfl), (Nat.le_of_ble_eq_true rfl)⟩) (zPV hE hS hw (ci := 2) (k0 := 0) rfl mE_0) rfl rfl hl.1 rfl (lv_room (Nat.le_of_ble_eq_true rfl)) dX2_isAsked_26 ⟨(Nat.le_of_ble_eq_true rfl), (Nat.le_of_ble_eq_true rfl)⟩) hS (fun H1 locs hq hz1 hk1 hS => ?_)
      obtain ⟨ma_w26, hw, hwU_26, hwV_26⟩ := hq
      refine lv_aload_n hx hb dX2_isAsked_29 rfl (lv_at hl 0 rfl) ?_
      refine zget (C := RX2) (T := TX2) (N := 19) hx hb hts hinX2 hown hE hw 0 mE_0 rfl 0 (by decide) (hts (.fieldLink RX2 66 "FormworkYardModel" "thrown" "I") (by decide +kernel)) rfl dX2_isAsked_30 ?_
      refine zi_top (fun v_30 hv_30 => ?_)
      simp [va_up] at hv_30
      subst hv_30
      refine zf_ne (tgt := 40) hx hb dX2_isAsked_33 (by decide) (by first | decide | (constructor <;> omega)) (fun c_33 => ?_) (fun c_33 => ?_)
      · exfalso; omega
      · refine zi_const hx hb dX2_isAsked_36 ?_
        refine lv_goto (tgt := 41) hx hb dX2_isAsked_37 (by decide) ?_
        refine zzret hx hb hr hlocks hS (Nat.le_of_ble_eq_true rfl) (Nat.le_of_ble_eq_true rfl) (by omega) ?_ dX2_isAsked_41
        refine ⟨_, _, hw, by unfold isP; (repeat' split) <;> omega, by omega, ?_⟩
        exact Or.inr ⟨rfl, ⟨by omega, by omega, by omega⟩, by rw [hkt_k]; exact hwU_26, by rw [hkt_k]; exact wV_0.mp hwV_26⟩

set_option maxHeartbeats 4000000 in
set_option maxRecDepth 100000 in
theorem c_X2_endOf (l : Launch) (D : va_G) (cy : Nat → ClassId) (A : Nat → Prop) (ad : Nat → Nat) (mi : Nat → Int) (ma : Nat → Nat → Int) (H0 : Heap) (p : Int) (hw : zW D A ad (mE cy ad mi ma) H0) (h1 : zr p) (hm0 : mOK mi ma) : Met l yX2_endOf wsX2_endOf ({ frames := 5, cells := 0, slots := 0, locals := 108 }) (zPc D cy A [.ref (ad 0), .int (iI (p))] H0) (zQi (fun z H1 => ∃ (c : Int) (mb : Nat → Nat → Int), zW D A ad (mE cy ad (va_up mi 0 c) mb) H1 ∧ sU ma mb ∧ c = (if isP ma p then 0 else 1) ∧ (c = 0 → z = endM mi ma p.toNat)) A) 0 0 A := by
  refine Met.ofW (cc := cX2_endOf) (maxL := 2) (ret := (some .int)) (by decide) rfl ?_
  intro pg en s mt args below meth c s₁ B hml hv
  obtain ⟨rfl, hH, hE⟩ := hv
  subst hH
  have hx := B.exec
  have hb := B.bytes
  have hr := B.returns
  have hts := atoms_spec (ws := wsX2_endOf) B.pre
  have hown : s.vm.findClass RX2 = some mt.cls := findClass_of_methodNamed B.named
  have hlocks := B.notSynchronized
  have hS : va_S A s.heap s.heap [] := va_S.rf
  have hl := lv_entry ([.ref (ad 0), .int (iI (p))]) (n := 2) (Nat.le_of_ble_eq_true rfl)
  rw [lg_entry_eq]
  generalize (lg_sl ([.ref (ad 0), .int (iI (p))]) ++ List.replicate (2 - (lg_sl ([.ref (ad 0), .int (iI (p))])).length) Slot.unset).toArray = ls at hl ⊢
  have hl : lv_has ls 2 [(0, .ref (ad 0)), (1, .int (iI (p)))] := hl
  obtain ⟨ht, hg, hb7, hpo⟩ := id hm0
  refine lv_aload_n hx hb dX2_endOf_0 rfl (lv_at hl 0 rfl) ?_
  refine lv_iload_n hx hb dX2_endOf_1 rfl (lv_at hl 1 rfl) ?_
  refine zcalli (va_runV (As := [.int (iI (p))]) (rest := []) ⟨hx, hb, hml, hown, hts⟩ (c_X2_isAsked l D cy A ad mi ma _ (p) hw (by first | decide | (constructor <;> omega)) hm0) (cwV 1 hts gX2_endOf_X2_isAsked rfl rfl rfl (by decide +kernel) ⟨(Nat.le_of_ble_eq_true rfl), (Nat.le_of_ble_eq_true rfl)⟩) (zPV hE hS hw (ci := 2) (k0 := 0) rfl mE_0) rfl rfl hl.1 rfl (lv_room (Nat.le_of_ble_eq_true rfl)) dX2_endOf_2 ⟨(Nat.le_of_ble_eq_true rfl), (Nat.le_of_ble_eq_true rfl)⟩) hS (fun z_2 H1 locs hz_2 hq hz1 hk1 hS => ?_)
  obtain ⟨c_a, ma_a, hw, hca, hza, hca2⟩ := hq
  refine zf_eq (tgt := 16) hx hb dX2_endOf_5 (by decide) (by first | decide | (constructor <;> omega)) (fun c_5 => ?_) (fun c_5 => ?_)
  · have hmA : mOK (va_up mi 0 c_a) ma_a := mOK_0.mpr ((mOK_s (by rcases hca2 with h | h; exact (by rw [h.2]; exact sU_r); exact wU_s h.2.2.1)).mpr hm0)
    have hsA : sU ma ma_a := by rcases hca2 with h | h; exact (by rw [h.2]; exact sU_r); exact wU_s h.2.2.1
    refine zi_const hx hb dX2_endOf_16 ?_
    refine ziret hx hb hr hlocks hS (Nat.le_of_ble_eq_true rfl) (Nat.le_of_ble_eq_true rfl) (by first | decide | (constructor <;> omega)) ?_ dX2_endOf_17
    refine ⟨_, _, hw, hsA, hca, ?_⟩
    intro hc0
    first | (exfalso; omega) | (rw [hkt_k]; exact hE10)
  · have hmA : mOK (va_up mi 0 c_a) ma_a := mOK_0.mpr ((mOK_s (by rcases hca2 with h | h; exact (by rw [h.2]; exact sU_r); exact wU_s h.2.2.1)).mpr hm0)
    have hsA : sU ma ma_a := by rcases hca2 with h | h; exact (by rw [h.2]; exact sU_r); exact wU_s h.2.2.1
    have hca3 : isP ma p ∧ wU p.toNat ma ma_a ∧ wV mi ma p.toNat ma_a := by rcases hca2 with h | h; exact absurd h.1 (by omega); exact h.2
    obtain ⟨hisP, hwUa, hwVa⟩ := hca3
    have hisP2 : 0 ≤ p ∧ p < 10 := ⟨hisP.1, hisP.2.1⟩
    obtain ⟨k, hkp_k⟩ : ∃ k : Nat, p = k := ⟨(p).toNat, by omega⟩
    rw [hkp_k] at hl
    have hkt_k : (p).toNat = k := by omega
    rw [hkt_k] at hwUa hwVa
    have h71 : ma 7 k = 1 := by rw [← hkt_k]; exact hisP.2.2
    have hpk := hpo k (by omega) h71
    have hwb := wV_b hg hpk hwVa
    have hpkA : pOK ma_a k := (pOK_s hsA (by omega)).mpr hpk
    refine lv_aload_n hx hb dX2_endOf_8 rfl (lv_at hl 0 rfl) ?_
    refine lv_iload_n hx hb dX2_endOf_9 rfl (lv_at hl 1 rfl) ?_
    refine zcalli (va_runV (As := [.int (iI ((k : Int)))]) (rest := []) ⟨hx, hb, hml, hown, hts⟩ (c_X2_end l D cy A ad (va_up mi 0 c_a) ma_a _ k hw (by omega) (gOK_0.mpr hg) hpkA) (cwV 1 hts gX2_endOf_X2_end rfl rfl rfl (by decide +kernel) ⟨(Nat.le_of_ble_eq_true rfl), (Nat.le_of_ble_eq_true rfl)⟩) (zPV hE hS hw (ci := 2) (k0 := 0) rfl mE_0) rfl rfl hl.1 rfl (lv_room (Nat.le_of_ble_eq_true rfl)) dX2_endOf_10 ⟨(Nat.le_of_ble_eq_true rfl), (Nat.le_of_ble_eq_true rfl)⟩) hS (fun z_10 H1 locs hz_10 hq hz1 hk1 hS => ?_)
    obtain ⟨hqe, hv_10⟩ := hq
    replace hqe := hqe.symm
    subst hqe
    have hE10 : z_10 = endM mi ma k := by rw [hv_10, endM_0, endM_s hsA (by omega)]
    refine lv_goto (tgt := 17) hx hb dX2_endOf_13 (by decide) ?_
    refine ziret hx hb hr hlocks hS (Nat.le_of_ble_eq_true rfl) (Nat.le_of_ble_eq_true rfl) (by first | decide | (constructor <;> omega)) ?_ dX2_endOf_17
    refine ⟨_, _, hw, hsA, hca, ?_⟩
    intro hc0
    first | (exfalso; omega) | (rw [hkt_k]; exact hE10)

set_option maxHeartbeats 4000000 in
set_option maxRecDepth 100000 in
theorem c_X2_struck (l : Launch) (D : va_G) (cy : Nat → ClassId) (A : Nat → Prop) (ad : Nat → Nat) (mi : Nat → Int) (ma : Nat → Nat → Int) (H0 : Heap) (p : Int) (hw : zW D A ad (mE cy ad mi ma) H0) (h1 : zr p) (hm0 : mOK mi ma) : Met l yX2_struck wsX2_struck ({ frames := 5, cells := 0, slots := 0, locals := 108 }) (zPc D cy A [.ref (ad 0), .int (iI (p))] H0) (zQi (fun z H1 => ∃ (c : Int) (mb : Nat → Nat → Int), zW D A ad (mE cy ad (va_up mi 0 c) mb) H1 ∧ sU ma mb ∧ c = (if isP ma p then 0 else 1) ∧ (c = 0 → z = (if kS mi ma p.toNat < 1000 then kS mi ma p.toNat else -1))) A) 0 0 A := by
  refine Met.ofW (cc := cX2_struck) (maxL := 2) (ret := (some .int)) (by decide) rfl ?_
  intro pg en s mt args below meth c s₁ B hml hv
  obtain ⟨rfl, hH, hE⟩ := hv
  subst hH
  have hx := B.exec
  have hb := B.bytes
  have hr := B.returns
  have hts := atoms_spec (ws := wsX2_struck) B.pre
  have hown : s.vm.findClass RX2 = some mt.cls := findClass_of_methodNamed B.named
  have hlocks := B.notSynchronized
  have hinX2 : ∀ w ∈ u_ws RX2 TX2 19, w ∈ wsX2_struck := by decide +kernel
  have hS : va_S A s.heap s.heap [] := va_S.rf
  have hl := lv_entry ([.ref (ad 0), .int (iI (p))]) (n := 2) (Nat.le_of_ble_eq_true rfl)
  rw [lg_entry_eq]
  generalize (lg_sl ([.ref (ad 0), .int (iI (p))]) ++ List.replicate (2 - (lg_sl ([.ref (ad 0), .int (iI (p))])).length) Slot.unset).toArray = ls at hl ⊢
  have hl : lv_has ls 2 [(0, .ref (ad 0)), (1, .int (iI (p)))] := hl
  obtain ⟨ht, hg, hb7, hpo⟩ := id hm0
  refine lv_aload_n hx hb dX2_struck_0 rfl (lv_at hl 0 rfl) ?_
  refine lv_iload_n hx hb dX2_struck_1 rfl (lv_at hl 1 rfl) ?_
  refine zcalli (va_runV (As := [.int (iI (p))]) (rest := []) ⟨hx, hb, hml, hown, hts⟩ (c_X2_isAsked l D cy A ad mi ma _ (p) hw (by first | decide | (constructor <;> omega)) hm0) (cwV 1 hts gX2_struck_X2_isAsked rfl rfl rfl (by decide +kernel) ⟨(Nat.le_of_ble_eq_true rfl), (Nat.le_of_ble_eq_true rfl)⟩) (zPV hE hS hw (ci := 2) (k0 := 0) rfl mE_0) rfl rfl hl.1 rfl (lv_room (Nat.le_of_ble_eq_true rfl)) dX2_struck_2 ⟨(Nat.le_of_ble_eq_true rfl), (Nat.le_of_ble_eq_true rfl)⟩) hS (fun z_2 H1 locs hz_2 hq hz1 hk1 hS => ?_)
  obtain ⟨c_a, ma_a, hw, hca, hza, hca2⟩ := hq
  refine zf_eq (tgt := 17) hx hb dX2_struck_5 (by decide) (by first | decide | (constructor <;> omega)) (fun c_5 => ?_) (fun c_5 => ?_)
  · have hmA : mOK (va_up mi 0 c_a) ma_a := mOK_0.mpr ((mOK_s (by rcases hca2 with h | h; exact (by rw [h.2]; exact sU_r); exact wU_s h.2.2.1)).mpr hm0)
    have hsA : sU ma ma_a := by rcases hca2 with h | h; exact (by rw [h.2]; exact sU_r); exact wU_s h.2.2.1
    refine zi_const hx hb dX2_struck_17 ?_
    refine ziret hx hb hr hlocks hS (Nat.le_of_ble_eq_true rfl) (Nat.le_of_ble_eq_true rfl) (by first | decide | (constructor <;> omega)) ?_ dX2_struck_18
    refine ⟨_, _, hw, hsA, hca, ?_⟩
    intro hc0
    first | (exfalso; omega) | (rw [hkt_k, hv_13]; exact hwVa.2.1)
  · have hmA : mOK (va_up mi 0 c_a) ma_a := mOK_0.mpr ((mOK_s (by rcases hca2 with h | h; exact (by rw [h.2]; exact sU_r); exact wU_s h.2.2.1)).mpr hm0)
    have hsA : sU ma ma_a := by rcases hca2 with h | h; exact (by rw [h.2]; exact sU_r); exact wU_s h.2.2.1
    have hca3 : isP ma p ∧ wU p.toNat ma ma_a ∧ wV mi ma p.toNat ma_a := by rcases hca2 with h | h; exact absurd h.1 (by omega); exact h.2
    obtain ⟨hisP, hwUa, hwVa⟩ := hca3
    have hisP2 : 0 ≤ p ∧ p < 10 := ⟨hisP.1, hisP.2.1⟩
    obtain ⟨k, hkp_k⟩ : ∃ k : Nat, p = k := ⟨(p).toNat, by omega⟩
    rw [hkp_k] at hl
    have hkt_k : (p).toNat = k := by omega
    rw [hkt_k] at hwUa hwVa
    have h71 : ma 7 k = 1 := by rw [← hkt_k]; exact hisP.2.2
    have hpk := hpo k (by omega) h71
    have hwb := wV_b hg hpk hwVa
    have hpkA : pOK ma_a k := (pOK_s hsA (by omega)).mpr hpk
    refine lv_aload_n hx hb dX2_struck_8 rfl (lv_at hl 0 rfl) ?_
    refine zget (C := RX2) (T := TX2) (N := 19) hx hb hts hinX2 hown hE hw 0 mE_0 rfl 16 (by decide) (hts (.fieldLink RX2 57 "FormworkYardModel" "strikes" "[I") (by decide +kernel)) rfl dX2_struck_9 ?_
    refine lv_iload_n hx hb dX2_struck_12 rfl (lv_at hl 1 rfl) ?_
    refine ziald hx hb hE hw 16 (mE_a 16 (by decide) rfl) k rfl (by omega) (by omega) dX2_struck_13 ?_
    refine zi_top (fun v_13 hv_13 => ?_)
    refine lv_goto (tgt := 18) hx hb dX2_struck_14 (by decide) ?_
    refine ziret hx hb hr hlocks hS (Nat.le_of_ble_eq_true rfl) (Nat.le_of_ble_eq_true rfl) (by first | decide | (constructor <;> omega)) ?_ dX2_struck_18
    refine ⟨_, _, hw, hsA, hca, ?_⟩
    intro hc0
    first | (exfalso; omega) | (rw [hkt_k, hv_13]; exact hwVa.2.1)

set_option maxHeartbeats 4000000 in
set_option maxRecDepth 100000 in
theorem c_X2_freeFrom (l : Launch) (D : va_G) (cy : Nat → ClassId) (A : Nat → Prop) (ad : Nat → Nat) (mi : Nat → Int) (ma : Nat → Nat → Int) (H0 : Heap) (p : Int) (hw : zW D A ad (mE cy ad mi ma) H0) (h1 : zr p) (hm0 : mOK mi ma) : Met l yX2_freeFrom wsX2_freeFrom ({ frames := 5, cells := 0, slots := 0, locals := 108 }) (zPc D cy A [.ref (ad 0), .int (iI (p))] H0) (zQi (fun z H1 => ∃ (c : Int) (mb : Nat → Nat → Int), zW D A ad (mE cy ad (va_up mi 0 c) mb) H1 ∧ sU ma mb ∧ c = (if isP ma p then 0 else 1) ∧ (c = 0 → z = (if frS mi ma p.toNat < 1000 then frS mi ma p.toNat else -1))) A) 0 0 A := by
  refine Met.ofW (cc := cX2_freeFrom) (maxL := 2) (ret := (some .int)) (by decide) rfl ?_
  intro pg en s mt args below meth c s₁ B hml hv
  obtain ⟨rfl, hH, hE⟩ := hv
  subst hH
  have hx := B.exec
  have hb := B.bytes
  have hr := B.returns
  have hts := atoms_spec (ws := wsX2_freeFrom) B.pre
  have hown : s.vm.findClass RX2 = some mt.cls := findClass_of_methodNamed B.named
  have hlocks := B.notSynchronized
  have hinX2 : ∀ w ∈ u_ws RX2 TX2 19, w ∈ wsX2_freeFrom := by decide +kernel
  have hS : va_S A s.heap s.heap [] := va_S.rf
  have hl := lv_entry ([.ref (ad 0), .int (iI (p))]) (n := 2) (Nat.le_of_ble_eq_true rfl)
  rw [lg_entry_eq]
  generalize (lg_sl ([.ref (ad 0), .int (iI (p))]) ++ List.replicate (2 - (lg_sl ([.ref (ad 0), .int (iI (p))])).length) Slot.unset).toArray = ls at hl ⊢
  have hl : lv_has ls 2 [(0, .ref (ad 0)), (1, .int (iI (p)))] := hl
  obtain ⟨ht, hg, hb7, hpo⟩ := id hm0
  refine lv_aload_n hx hb dX2_freeFrom_0 rfl (lv_at hl 0 rfl) ?_
  refine lv_iload_n hx hb dX2_freeFrom_1 rfl (lv_at hl 1 rfl) ?_
  refine zcalli (va_runV (As := [.int (iI (p))]) (rest := []) ⟨hx, hb, hml, hown, hts⟩ (c_X2_isAsked l D cy A ad mi ma _ (p) hw (by first | decide | (constructor <;> omega)) hm0) (cwV 1 hts gX2_freeFrom_X2_isAsked rfl rfl rfl (by decide +kernel) ⟨(Nat.le_of_ble_eq_true rfl), (Nat.le_of_ble_eq_true rfl)⟩) (zPV hE hS hw (ci := 2) (k0 := 0) rfl mE_0) rfl rfl hl.1 rfl (lv_room (Nat.le_of_ble_eq_true rfl)) dX2_freeFrom_2 ⟨(Nat.le_of_ble_eq_true rfl), (Nat.le_of_ble_eq_true rfl)⟩) hS (fun z_2 H1 locs hz_2 hq hz1 hk1 hS => ?_)
  obtain ⟨c_a, ma_a, hw, hca, hza, hca2⟩ := hq
  refine zf_ne (tgt := 12) hx hb dX2_freeFrom_5 (by decide) (by first | decide | (constructor <;> omega)) (fun c_5 => ?_) (fun c_5 => ?_)
  · have hmA : mOK (va_up mi 0 c_a) ma_a := mOK_0.mpr ((mOK_s (by rcases hca2 with h | h; exact (by rw [h.2]; exact sU_r); exact wU_s h.2.2.1)).mpr hm0)
    have hsA : sU ma ma_a := by rcases hca2 with h | h; exact (by rw [h.2]; exact sU_r); exact wU_s h.2.2.1
    have hca3 : isP ma p ∧ wU p.toNat ma ma_a ∧ wV mi ma p.toNat ma_a := by rcases hca2 with h | h; exact absurd h.1 (by omega); exact h.2
    obtain ⟨hisP, hwUa, hwVa⟩ := hca3
    have hisP2 : 0 ≤ p ∧ p < 10 := ⟨hisP.1, hisP.2.1⟩
    obtain ⟨k, hkp_k⟩ : ∃ k : Nat, p = k := ⟨(p).toNat, by omega⟩
    rw [hkp_k] at hl
    have hkt_k : (p).toNat = k := by omega
    rw [hkt_k] at hwUa hwVa
    have h71 : ma 7 k = 1 := by rw [← hkt_k]; exact hisP.2.2
    have hpk := hpo k (by omega) h71
    have hwb := wV_b hg hpk hwVa
    have hpkA : pOK ma_a k := (pOK_s hsA (by omega)).mpr hpk
    refine lv_aload_n hx hb dX2_freeFrom_12 rfl (lv_at hl 0 rfl) ?_
    refine zget (C := RX2) (T := TX2) (N := 19) hx hb hts hinX2 hown hE hw 0 mE_0 rfl 17 (by decide) (hts (.fieldLink RX2 60 "FormworkYardModel" "frees" "[I") (by decide +kernel)) rfl dX2_freeFrom_13 ?_
    refine lv_iload_n hx hb dX2_freeFrom_16 rfl (lv_at hl 1 rfl) ?_
    refine ziald hx hb hE hw 17 (mE_a 17 (by decide) rfl) k rfl (by omega) (by omega) dX2_freeFrom_17 ?_
    refine zi_top (fun v_17 hv_17 => ?_)
    refine zi_sipush hx hb dX2_freeFrom_18 (by decide) ?_
    refine zc_ge (tgt := 33) hx hb dX2_freeFrom_21 (by decide) (by first | decide | (constructor <;> omega)) (by first | decide | (constructor <;> omega)) (fun c_21 => ?_) (fun c_21 => ?_)
    · refine zi_const hx hb dX2_freeFrom_33 ?_
      refine ziret hx hb hr hlocks hS (Nat.le_of_ble_eq_true rfl) (Nat.le_of_ble_eq_true rfl) (by first | decide | (constructor <;> omega)) ?_ dX2_freeFrom_34
      refine ⟨_, _, hw, hsA, hca, ?_⟩
      intro hc0
      have h17 : ma_a 17 k = frS mi ma k := hwVa.2.2
      rw [hkt_k, ← h17]
      split <;> omega
    · refine lv_aload_n hx hb dX2_freeFrom_24 rfl (lv_at hl 0 rfl) ?_
      refine zget (C := RX2) (T := TX2) (N := 19) hx hb hts hinX2 hown hE hw 0 mE_0 rfl 17 (by decide) (hts (.fieldLink RX2 60 "FormworkYardModel" "frees" "[I") (by decide +kernel)) rfl dX2_freeFrom_25 ?_
      refine lv_iload_n hx hb dX2_freeFrom_28 rfl (lv_at hl 1 rfl) ?_
      refine ziald hx hb hE hw 17 (mE_a 17 (by decide) rfl) k rfl (by omega) (by omega) dX2_freeFrom_29 ?_
      refine zi_top (fun v_29 hv_29 => ?_)
      refine lv_goto (tgt := 34) hx hb dX2_freeFrom_30 (by decide) ?_
      refine ziret hx hb hr hlocks hS (Nat.le_of_ble_eq_true rfl) (Nat.le_of_ble_eq_true rfl) (by first | decide | (constructor <;> omega)) ?_ dX2_freeFrom_34
      refine ⟨_, _, hw, hsA, hca, ?_⟩
      intro hc0
      have h17 : ma_a 17 k = frS mi ma k := hwVa.2.2
      rw [hkt_k, ← h17]
      split <;> omega
  · have hmA : mOK (va_up mi 0 c_a) ma_a := mOK_0.mpr ((mOK_s (by rcases hca2 with h | h; exact (by rw [h.2]; exact sU_r); exact wU_s h.2.2.1)).mpr hm0)
    have hsA : sU ma ma_a := by rcases hca2 with h | h; exact (by rw [h.2]; exact sU_r); exact wU_s h.2.2.1
    refine zi_const hx hb dX2_freeFrom_8 ?_
    refine lv_goto (tgt := 34) hx hb dX2_freeFrom_9 (by decide) ?_
    refine ziret hx hb hr hlocks hS (Nat.le_of_ble_eq_true rfl) (Nat.le_of_ble_eq_true rfl) (by first | decide | (constructor <;> omega)) ?_ dX2_freeFrom_34
    refine ⟨_, _, hw, hsA, hca, ?_⟩
    intro hc0
    exfalso; omega

set_option maxHeartbeats 4000000 in
set_option maxRecDepth 100000 in
theorem c_X2_coldJoints (l : Launch) (D : va_G) (cy : Nat → ClassId) (A : Nat → Prop) (ad : Nat → Nat) (mi : Nat → Int) (ma : Nat → Nat → Int) (H0 : Heap) (p : Int) (hw : zW D A ad (mE cy ad mi ma) H0) (h1 : zr p) (hm0 : mOK mi ma) : Met l yX2_coldJoints wsX2_coldJoints ({ frames := 5, cells := 0, slots := 0, locals := 108 }) (zPc D cy A [.ref (ad 0), .int (iI (p))] H0) (zQi (fun z H1 => ∃ (c : Int) (mb : Nat → Nat → Int), zW D A ad (mE cy ad (va_up mi 0 c) mb) H1 ∧ sU ma mb ∧ c = (if isP ma p then 0 else 1) ∧ (c = 0 → z = sl (cjF mi ma p.toNat) (ma 12 p.toNat).toNat)) A) 0 0 A := by
  refine Met.ofW (cc := cX2_coldJoints) (maxL := 8) (ret := (some .int)) (by decide) rfl ?_
  intro pg en s mt args below meth c s₁ B hml hv
  obtain ⟨rfl, hH, hE⟩ := hv
  subst hH
  have hx := B.exec
  have hb := B.bytes
  have hr := B.returns
  have hts := atoms_spec (ws := wsX2_coldJoints) B.pre
  have hown : s.vm.findClass RX2 = some mt.cls := findClass_of_methodNamed B.named
  have hlocks := B.notSynchronized
  have hinX2 : ∀ w ∈ u_ws RX2 TX2 19, w ∈ wsX2_coldJoints := by decide +kernel
  have hS : va_S A s.heap s.heap [] := va_S.rf
  have hl := lv_entry ([.ref (ad 0), .int (iI (p))]) (n := 8) (Nat.le_of_ble_eq_true rfl)
  rw [lg_entry_eq]
  generalize (lg_sl ([.ref (ad 0), .int (iI (p))]) ++ List.replicate (8 - (lg_sl ([.ref (ad 0), .int (iI (p))])).length) Slot.unset).toArray = ls at hl ⊢
  have hl : lv_has ls 8 [(0, .ref (ad 0)), (1, .int (iI (p)))] := hl
  obtain ⟨ht, hg, hb7, hpo⟩ := id hm0
  refine zi_const hx hb dX2_coldJoints_0 ?_
  refine lv_istore_n (lv' := [(2, .int (iI (0))), (0, .ref (ad 0)), (1, .int (iI (p)))]) hx hb dX2_coldJoints_1 rfl hl (by decide) rfl (fun ls hl => ?_)
  refine zi_const hx hb dX2_coldJoints_2 ?_
  refine lv_istore_n (lv' := [(3, .int (iI (0))), (2, .int (iI (0))), (0, .ref (ad 0)), (1, .int (iI (p)))]) hx hb dX2_coldJoints_3 rfl hl (by decide) rfl (fun ls hl => ?_)
  refine lv_aload_n hx hb dX2_coldJoints_4 rfl (lv_at hl 2 rfl) ?_
  refine lv_iload_n hx hb dX2_coldJoints_5 rfl (lv_at hl 3 rfl) ?_
  refine zcalli (va_runV (As := [.int (iI (p))]) (rest := []) ⟨hx, hb, hml, hown, hts⟩ (c_X2_isAsked l D cy A ad mi ma _ (p) hw (by first | decide | (constructor <;> omega)) hm0) (cwV 1 hts gX2_coldJoints_X2_isAsked rfl rfl rfl (by decide +kernel) ⟨(Nat.le_of_ble_eq_true rfl), (Nat.le_of_ble_eq_true rfl)⟩) (zPV hE hS hw (ci := 2) (k0 := 0) rfl mE_0) rfl rfl hl.1 rfl (lv_room (Nat.le_of_ble_eq_true rfl)) dX2_coldJoints_6 ⟨(Nat.le_of_ble_eq_true rfl), (Nat.le_of_ble_eq_true rfl)⟩) hS (fun z_6 H1 locs hz_6 hq hz1 hk1 hS => ?_)
  obtain ⟨c_a, ma_a, hw, hca, hza, hca2⟩ := hq
  refine lv_istore (lv' := [(4, .int (iI (z_6))), (3, .int (iI (0))), (2, .int (iI (0))), (0, .ref (ad 0)), (1, .int (iI (p)))]) hx hb dX2_coldJoints_9 hl (by decide) rfl (fun ls hl => ?_)
  have hmA : mOK (va_up mi 0 c_a) ma_a := mOK_0.mpr ((mOK_s (by rcases hca2 with h | h; exact (by rw [h.2]; exact sU_r); exact wU_s h.2.2.1)).mpr hm0)
  have hsA : sU ma ma_a := by rcases hca2 with h | h; exact (by rw [h.2]; exact sU_r); exact wU_s h.2.2.1
  have hc01 : c_a = 0 ∨ c_a = 1 := by rw [hca]; split <;> omega
  rcases hca2 with hca3 | hca3
  · have hz6 : z_6 = 0 := by have := hca3.1; omega
    subst hz6
    refine zi_const hx hb dX2_coldJoints_11 ?_
    refine lv_istore (lv' := [(5, .int (iI (0))), (4, .int (iI (0))), (3, .int (iI (0))), (2, .int (iI (0))), (0, .ref (ad 0)), (1, .int (iI (p)))]) hx hb dX2_coldJoints_12 hl (by decide) rfl (fun ls hl => ?_)
    refine lv_iload hx hb dX2_coldJoints_14 (lv_at hl 1 rfl) ?_
    refine zf_eq (tgt := 105) hx hb dX2_coldJoints_16 (by decide) (by first | decide | (constructor <;> omega)) (fun c_16 => ?_) (fun c_16 => ?_)
    · refine lv_iload_n hx hb dX2_coldJoints_105 rfl (lv_at hl 3 rfl) ?_
      refine ziret hx hb hr hlocks hS (Nat.le_of_ble_eq_true rfl) (Nat.le_of_ble_eq_true rfl) (by first | decide | (constructor <;> omega)) ?_ dX2_coldJoints_106
      refine ⟨_, _, hw, hsA, hca, ?_⟩
      intro hc0
      exact absurd hc0 hca3.1
    · exfalso; omega
  · have hz6 : z_6 = 1 := by have := hca3.1; omega
    subst hz6
    obtain ⟨hc0, hisP, hwUa, hwVa⟩ := hca3
    have hisP2 : 0 ≤ p ∧ p < 10 := ⟨hisP.1, hisP.2.1⟩
    obtain ⟨k, hkp_k⟩ : ∃ k : Nat, p = k := ⟨(p).toNat, by omega⟩
    rw [hkp_k] at hl
    have hkt_k : (p).toNat = k := by omega
    have h71 : ma 7 k = 1 := by rw [← hkt_k]; exact hisP.2.2
    have hpk := hpo k (by omega) h71
    obtain ⟨q1, q2, q3, q4, q5, q6⟩ := id hpk
    obtain ⟨g1, g2, g3, g4, g5⟩ := id hg
    have e13 : ma_a 13 = ma 13 := sU_row hsA (by omega)
    have e14 : ma_a 14 = ma 14 := sU_row hsA (by omega)
    have e8 : ma_a 8 k = ma 8 k := hsA 8 k (by omega) (by omega)
    have e1 : ma_a 1 = ma 1 := sU_row hsA (by omega)
    have e12 : ma_a 12 k = ma 12 k := hsA 12 k (by omega) (by omega)
    have ht2 : tOK (ma_a 1) := by rw [e1]; exact ht
    refine zi_const hx hb dX2_coldJoints_11 ?_
    refine lv_istore (lv' := [(5, .int (iI (0))), (4, .int (iI (1))), (3, .int (iI (0))), (2, .int (iI (0))), (0, .ref (ad 0)), (1, .int (iI ((k : Int))))]) hx hb dX2_coldJoints_12 hl (by decide) rfl (fun ls hl => ?_)
    have loop_14 : ∀ (n : Nat) (i : Nat) (w x : Int) (H : Heap) (locs : List Loc) (ls : Array Slot), (ma 12 k).toNat - i < n → (i ≤ (ma 12 k).toNat) → (w = sl (cjF mi ma k) i) → (x = sl (fun j => ma 14 (4 * k + j)) i) → zW D A ad (mE cy ad (va_up mi 0 c_a) ma_a) H → va_S A s.heap H locs → lv_has ls 8 [(5, .int (iI ((i : Int)))), (4, .int (iI (1))), (3, .int (iI (x))), (2, .int (iI (w))), (0, .ref (ad 0)), (1, .int (iI ((k : Int))))] → W pg l en (headSpec wsX2_coldJoints ({ frames := 5, cells := 0, slots := 0, locals := 108 })).room s mt ([.ref (ad 0), .int (iI (p))] : List Value).toArray below meth c H locs 0 0 (MQ below (zQi (fun z H1 => ∃ (c : Int) (mb : Nat → Nat → Int), zW D A ad (mE cy ad (va_up mi 0 c) mb) H1 ∧ sU ma mb ∧ c = (if isP ma p then 0 else 1) ∧ (c = 0 → z = sl (cjF mi ma p.toNat) (ma 12 p.toNat).toNat)) A) ([.ref (ad 0), .int (iI (p))] : List Value).toArray s 0 0 A) (F0 mt 14 ls []) := by
      intro n
      induction n with
      | zero =>
        intro i w x H locs ls hm hi hk1 hk2
        exfalso; omega
      | succ n ih =>
        intro i w x H locs ls hm hi hk1 hk2 hw hS hl
        have hb1 := sl_b (f := cjF mi ma k) (a := 0) (b := 1) (n := i) (fun j hj => by unfold cjF; split <;> omega)
        have hb2 := sl_b (f := fun j => ma 14 (4 * k + j)) (a := 0) (b := 9) (n := i) (fun j hj => by have := q6 j (by omega); constructor <;> (try simp only []) <;> omega)
        refine lv_iload hx hb dX2_coldJoints_14 (lv_at hl 1 rfl) ?_
        refine zf_eq (tgt := 105) hx hb dX2_coldJoints_16 (by decide) (by first | decide | (constructor <;> omega)) (fun c_16 => ?_) (fun c_16 => ?_)
        · exfalso; omega
        · refine lv_iload hx hb dX2_coldJoints_19 (lv_at hl 0 rfl) ?_
          refine lv_aload_n hx hb dX2_coldJoints_21 rfl (lv_at hl 4 rfl) ?_
          refine zget (C := RX2) (T := TX2) (N := 19) hx hb hts hinX2 hown hE hw 0 mE_0 rfl 12 (by decide) (hts (.fieldLink RX2 45 "FormworkYardModel" "breakMany" "[I") (by decide +kernel)) rfl dX2_coldJoints_22 ?_
          refine lv_iload_n hx hb dX2_coldJoints_25 rfl (lv_at hl 5 rfl) ?_
          refine ziald hx hb hE hw 12 (mE_a 12 (by decide) rfl) k rfl (by omega) (by omega) dX2_coldJoints_26 ?_
          refine zi_top (fun v_26 hv_26 => ?_)
          rw [e12] at hv_26
          refine zc_ge (tgt := 105) hx hb dX2_coldJoints_27 (by decide) (by first | decide | (constructor <;> omega)) (by first | decide | (constructor <;> omega)) (fun c_27 => ?_) (fun c_27 => ?_)
          · refine lv_iload_n hx hb dX2_coldJoints_105 rfl (lv_at hl 3 rfl) ?_
            refine ziret hx hb hr hlocks hS (Nat.le_of_ble_eq_true rfl) (Nat.le_of_ble_eq_true rfl) (by first | decide | (constructor <;> omega)) ?_ dX2_coldJoints_106
            refine ⟨_, _, hw, hsA, hca, ?_⟩
            intro hc0
            rw [hkt_k, hk1, show i = (ma 12 k).toNat by omega]
          · refine lv_aload_n hx hb dX2_coldJoints_30 rfl (lv_at hl 4 rfl) ?_
            refine zget (C := RX2) (T := TX2) (N := 19) hx hb hts hinX2 hown hE hw 0 mE_0 rfl 8 (by decide) (hts (.fieldLink RX2 33 "FormworkYardModel" "starts" "[I") (by decide +kernel)) rfl dX2_coldJoints_31 ?_
            refine lv_iload_n hx hb dX2_coldJoints_34 rfl (lv_at hl 5 rfl) ?_
            refine ziald hx hb hE hw 8 (mE_a 8 (by decide) rfl) k rfl (by omega) (by omega) dX2_coldJoints_35 ?_
            refine zi_top (fun v_35 hv_35 => ?_)
            rw [e8] at hv_35
            refine lv_aload_n hx hb dX2_coldJoints_36 rfl (lv_at hl 4 rfl) ?_
            refine zget (C := RX2) (T := TX2) (N := 19) hx hb hts hinX2 hown hE hw 0 mE_0 rfl 13 (by decide) (hts (.fieldLink RX2 48 "FormworkYardModel" "parts" "[I") (by decide +kernel)) rfl dX2_coldJoints_37 ?_
            refine zi_const hx hb dX2_coldJoints_40 ?_
            refine lv_iload_n hx hb dX2_coldJoints_41 rfl (lv_at hl 5 rfl) ?_
            refine zi_mul hx hb dX2_coldJoints_42 ?_
            refine lv_iload hx hb dX2_coldJoints_43 (lv_at hl 0 rfl) ?_
            refine zi_add hx hb dX2_coldJoints_45 ?_
            refine ziald hx hb hE hw 13 (mE_a 13 (by decide) rfl) (4 * k + i) (by omega) (by omega) (by omega) dX2_coldJoints_46 ?_
            refine zi_top (fun v_46 hv_46 => ?_)
            rw [e13] at hv_46
            have hI := q6 i (by omega)
            refine lv_aload_n hx hb dX2_coldJoints_47 rfl (lv_at hl 4 rfl) ?_
            refine zcalli (va_runV (As := []) (rest := [.int (iI (v_46)), .int (iI (v_35))]) ⟨hx, hb, hml, hown, hts⟩ (c_X2_rate l D cy A ad (va_up mi 0 c_a) ma_a _ hw (gOK_0.mpr hg)) (cwV 0 hts gX2_coldJoints_X2_rate rfl rfl rfl (by decide +kernel) ⟨(Nat.le_of_ble_eq_true rfl), (Nat.le_of_ble_eq_true rfl)⟩) (zPV hE hS hw (ci := 2) (k0 := 0) rfl mE_0) rfl rfl hl.1 rfl (lv_room (Nat.le_of_ble_eq_true rfl)) dX2_coldJoints_48 ⟨(Nat.le_of_ble_eq_true rfl), (Nat.le_of_ble_eq_true rfl)⟩) hS (fun z_48 H1 locs hz_48 hq hz1 hk1 hS => ?_)
            obtain ⟨hqe, hv_48⟩ := hq
            replace hqe := hqe.symm
            subst hqe
            have hv48 : z_48 = min (mi 3) (mi 4) := by rw [hv_48]; simp [va_up]
            have hd := div_b (a := v_46) (b := z_48) (by omega) (by omega)
            refine zi_div hx hb dX2_coldJoints_51 (by omega) (by omega) (by omega) (by omega) ?_
            refine zi_add hx hb dX2_coldJoints_52 ?_
            refine lv_iload_n hx hb dX2_coldJoints_53 rfl (lv_at hl 2 rfl) ?_
            refine zi_add hx hb dX2_coldJoints_54 ?_
            refine zi_top (fun x_55 hx_55 => ?_)
            have hbeg : x_55 = cjB mi ma k i := by rw [hx_55, hv_35, hv_46, hv48, hk2]; rfl
            refine lv_istore (lv' := [(6, .int (iI (x_55))), (5, .int (iI ((i : Int)))), (4, .int (iI (1))), (3, .int (iI (x))), (2, .int (iI (w))), (0, .ref (ad 0)), (1, .int (iI ((k : Int))))]) hx hb dX2_coldJoints_55 hl (by decide) rfl (fun ls hl => ?_)
            refine lv_aload_n hx hb dX2_coldJoints_57 rfl (lv_at hl 5 rfl) ?_
            refine zget (C := RX2) (T := TX2) (N := 19) hx hb hts hinX2 hown hE hw 0 mE_0 rfl 14 (by decide) (hts (.fieldLink RX2 51 "FormworkYardModel" "lasts" "[I") (by decide +kernel)) rfl dX2_coldJoints_58 ?_
            refine zi_const hx hb dX2_coldJoints_61 ?_
            refine lv_iload_n hx hb dX2_coldJoints_62 rfl (lv_at hl 6 rfl) ?_
            refine zi_mul hx hb dX2_coldJoints_63 ?_
            refine lv_iload hx hb dX2_coldJoints_64 (lv_at hl 1 rfl) ?_
            refine zi_add hx hb dX2_coldJoints_66 ?_
            refine ziald hx hb hE hw 14 (mE_a 14 (by decide) rfl) (4 * k + i) (by omega) (by omega) (by omega) dX2_coldJoints_67 ?_
            refine zi_top (fun v_67 hv_67 => ?_)
            rw [e14] at hv_67
            have hv67 : v_67 = ma 14 (4 * k + i) := hv_67
            refine lv_istore (lv' := [(7, .int (iI (v_67))), (6, .int (iI (x_55))), (5, .int (iI ((i : Int)))), (4, .int (iI (1))), (3, .int (iI (x))), (2, .int (iI (w))), (0, .ref (ad 0)), (1, .int (iI ((k : Int))))]) hx hb dX2_coldJoints_68 hl (by decide) rfl (fun ls hl => ?_)
            refine lv_iload_n hx hb dX2_coldJoints_70 rfl (lv_at hl 5 rfl) ?_
            refine lv_aload_n hx hb dX2_coldJoints_71 rfl (lv_at hl 6 rfl) ?_
            refine lv_iload hx hb dX2_coldJoints_72 (lv_at hl 1 rfl) ?_
            refine lv_iload hx hb dX2_coldJoints_74 (lv_at hl 1 rfl) ?_
            refine lv_iload hx hb dX2_coldJoints_76 (lv_at hl 0 rfl) ?_
            refine zi_add hx hb dX2_coldJoints_78 ?_
            refine zcalli (va_runV (As := [.int (iI (x_55)), .int (iI (x_55 + v_67))]) (rest := [.int (iI (w))]) ⟨hx, hb, hml, hown, hts⟩ (c_X2_sum l D cy A ad (va_up mi 0 c_a) ma_a _ (x_55) (x_55 + v_67) hw (by constructor <;> omega) (by constructor <;> omega) ht2) (cwV 2 hts gX2_coldJoints_X2_sum rfl rfl rfl (by decide +kernel) ⟨(Nat.le_of_ble_eq_true rfl), (Nat.le_of_ble_eq_true rfl)⟩) (zPV hE hS hw (ci := 2) (k0 := 0) rfl mE_0) rfl rfl hl.1 rfl (lv_room (Nat.le_of_ble_eq_true rfl)) dX2_coldJoints_79 ⟨(Nat.le_of_ble_eq_true rfl), (Nat.le_of_ble_eq_true rfl)⟩) hS (fun z_79 H1 locs hz_79 hq hz1 hk1 hS => ?_)
            obtain ⟨hqe, hv_79⟩ := hq
            replace hqe := hqe.symm
            subst hqe
            rw [e1] at hv_79
            have hmat : z_79 = mat (ma 1) x_55 (x_55 + v_67) := hv_79
            have hbeg2 : cjB mi ma k i = x_55 := hbeg.symm
            have hmb := mat_b ht x_55 (x_55 + v_67)
            refine zi_bipush hx hb dX2_coldJoints_82 (by decide) ?_
            refine zc_lt (tgt := 91) hx hb dX2_coldJoints_84 (by decide) (by first | decide | (constructor <;> omega)) (by first | decide | (constructor <;> omega)) (fun c_84 => ?_) (fun c_84 => ?_)
            · refine zi_const hx hb dX2_coldJoints_91 ?_
              refine zi_add hx hb dX2_coldJoints_92 ?_
              refine zi_top (fun x_93 hx_93 => ?_)
              refine lv_istore_n (lv' := [(2, .int (iI (x_93))), (7, .int (iI (v_67))), (6, .int (iI (x_55))), (5, .int (iI ((i : Int)))), (4, .int (iI (1))), (3, .int (iI (x))), (0, .ref (ad 0)), (1, .int (iI ((k : Int))))]) hx hb dX2_coldJoints_93 rfl hl (by decide) rfl (fun ls hl => ?_)
              refine lv_iload_n hx hb dX2_coldJoints_94 rfl (lv_at hl 5 rfl) ?_
              refine lv_iload hx hb dX2_coldJoints_95 (lv_at hl 1 rfl) ?_
              refine zi_add hx hb dX2_coldJoints_97 ?_
              refine zi_top (fun x_98 hx_98 => ?_)
              refine lv_istore_n (lv' := [(3, .int (iI (x_98))), (2, .int (iI (x_93))), (7, .int (iI (v_67))), (6, .int (iI (x_55))), (5, .int (iI ((i : Int)))), (4, .int (iI (1))), (0, .ref (ad 0)), (1, .int (iI ((k : Int))))]) hx hb dX2_coldJoints_98 rfl hl (by decide) rfl (fun ls hl => ?_)
              refine zi_iinc (lv' := [(5, .int (iI ((i : Int) + 1))), (3, .int (iI (x_98))), (2, .int (iI (x_93))), (7, .int (iI (v_67))), (6, .int (iI (x_55))), (4, .int (iI (1))), (0, .ref (ad 0)), (1, .int (iI ((k : Int))))]) hx hb dX2_coldJoints_99 hl (k := 4) rfl (by decide) rfl (fun ls hl => ?_)
              refine lv_goto (tgt := 14) hx hb dX2_coldJoints_102 (by decide) ?_
              exact ih (i + 1) x_93 x_98 _ _ _ (by omega) (by omega) (by simp only [sl]; rw [show cjF mi ma k i = 0 by unfold cjF; rw [hbeg2, ← hv67, ← hmat, if_neg (by omega)]]; omega) (by simp only [sl]; omega) hw hS (lv_sub hl [0, 5, 1, 2, 6, 7] rfl)
            · refine zi_const hx hb dX2_coldJoints_87 ?_
              refine lv_goto (tgt := 92) hx hb dX2_coldJoints_88 (by decide) ?_
              refine zi_add hx hb dX2_coldJoints_92 ?_
              refine zi_top (fun x_93 hx_93 => ?_)
              refine lv_istore_n (lv' := [(2, .int (iI (x_93))), (7, .int (iI (v_67))), (6, .int (iI (x_55))), (5, .int (iI ((i : Int)))), (4, .int (iI (1))), (3, .int (iI (x))), (0, .ref (ad 0)), (1, .int (iI ((k : Int))))]) hx hb dX2_coldJoints_93 rfl hl (by decide) rfl (fun ls hl => ?_)
              refine lv_iload_n hx hb dX2_coldJoints_94 rfl (lv_at hl 5 rfl) ?_
              refine lv_iload hx hb dX2_coldJoints_95 (lv_at hl 1 rfl) ?_
              refine zi_add hx hb dX2_coldJoints_97 ?_
              refine zi_top (fun x_98 hx_98 => ?_)
              refine lv_istore_n (lv' := [(3, .int (iI (x_98))), (2, .int (iI (x_93))), (7, .int (iI (v_67))), (6, .int (iI (x_55))), (5, .int (iI ((i : Int)))), (4, .int (iI (1))), (0, .ref (ad 0)), (1, .int (iI ((k : Int))))]) hx hb dX2_coldJoints_98 rfl hl (by decide) rfl (fun ls hl => ?_)
              refine zi_iinc (lv' := [(5, .int (iI ((i : Int) + 1))), (3, .int (iI (x_98))), (2, .int (iI (x_93))), (7, .int (iI (v_67))), (6, .int (iI (x_55))), (4, .int (iI (1))), (0, .ref (ad 0)), (1, .int (iI ((k : Int))))]) hx hb dX2_coldJoints_99 hl (k := 4) rfl (by decide) rfl (fun ls hl => ?_)
              refine lv_goto (tgt := 14) hx hb dX2_coldJoints_102 (by decide) ?_
              exact ih (i + 1) x_93 x_98 _ _ _ (by omega) (by omega) (by simp only [sl]; rw [show cjF mi ma k i = 1 by unfold cjF; rw [hbeg2, ← hv67, ← hmat, if_pos (by omega)]]; omega) (by simp only [sl]; omega) hw hS (lv_sub hl [0, 5, 1, 2, 6, 7] rfl)
    exact loop_14 ((ma 12 k).toNat + 1) 0 0 0 _ _ _ (by omega) (by omega) rfl rfl hw hS (lv_sub hl [0, 1, 2, 3, 4, 5] rfl)
