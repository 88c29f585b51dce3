set_option maxHeartbeats 4000000 in
set_option maxRecDepth 100000 in
theorem c_X2_need (l : Launch) (D : va_G) (cy : Nat → ClassId) (A : Nat → Prop) (ad : Nat → Nat) (mi : Nat → Int) (ma : Nat → Nat → Int) (H0 : Heap) (h : Int) (hw : zW D A ad (mE cy ad mi ma) H0) (h1 : zr h) (hm0 : mOK mi ma) : Met l yX2_need wsX2_need ({ frames := 5, cells := 0, slots := 0, locals := 108 }) (zPc D cy A [.ref (ad 0), .int (iI (h))] H0) (zQi (fun z H1 => ∃ (c : Int) (mb : Nat → Nat → Int), zW D A ad (mE cy ad (va_up mi 0 c) mb) H1 ∧ sU ma mb ∧ c = (if 0 ≤ h ∧ h < 1000 then 0 else 1) ∧ (c = 0 → z = nS mi ma h 10)) A) 0 0 A := by
  refine Met.ofW (cc := cX2_need) (maxL := 2) (ret := (some .int)) (by decide) rfl ?_
  intro pg en s mt args below meth c s₁ B hml hv
  obtain ⟨rfl, hH, hE⟩ := hv
  subst hH
  have hx := B.exec
  have hb := B.bytes
  have hr := B.returns
  have hts := atoms_spec (ws := wsX2_need) B.pre
  have hown : s.vm.findClass RX2 = some mt.cls := findClass_of_methodNamed B.named
  have hlocks := B.notSynchronized
  have hinX2 : ∀ w ∈ u_ws RX2 TX2 19, w ∈ wsX2_need := by decide +kernel
  have hS : va_S A s.heap s.heap [] := va_S.rf
  have hl := lv_entry ([.ref (ad 0), .int (iI (h))]) (n := 2) (Nat.le_of_ble_eq_true rfl)
  rw [lg_entry_eq]
  generalize (lg_sl ([.ref (ad 0), .int (iI (h))]) ++ List.replicate (2 - (lg_sl ([.ref (ad 0), .int (iI (h))])).length) Slot.unset).toArray = ls at hl ⊢
  have hl : lv_has ls 2 [(0, .ref (ad 0)), (1, .int (iI (h)))] := hl
  obtain ⟨ht, hg, hb7, hpo⟩ := id hm0
  refine lv_aload_n hx hb dX2_need_0 rfl (lv_at hl 0 rfl) ?_
  refine lv_iload_n hx hb dX2_need_1 rfl (lv_at hl 1 rfl) ?_
  refine zcalli (va_runS (As := [.int (iI (h))]) (rest := [.ref (ad 0)]) ⟨hx, hb, hml, hown, hts⟩ (c_X2_isHour l D cy A ad _ (h) (by first | decide | (constructor <;> omega))) (va_cwS 1 hts gX2_need_X2_isHour rfl rfl rfl (by decide +kernel) ⟨(Nat.le_of_ble_eq_true rfl), (Nat.le_of_ble_eq_true rfl)⟩) (zPS hE hS) rfl rfl hl.1 rfl (lv_room (Nat.le_of_ble_eq_true rfl)) dX2_need_2 ⟨(Nat.le_of_ble_eq_true rfl), (Nat.le_of_ble_eq_true rfl)⟩) hS (fun z_2 H1 locs hz_2 hq hz1 hk1 hS => ?_)
  obtain ⟨hqe, hv_2⟩ := hq
  replace hqe := hqe.symm
  subst hqe
  refine zf_eq (tgt := 12) hx hb dX2_need_5 (by decide) (by first | decide | (constructor <;> omega)) (fun c_5 => ?_) (fun c_5 => ?_)
  · refine zi_const hx hb dX2_need_12 ?_
    refine zput (C := RX2) (T := TX2) (N := 19) hx hb hts hinX2 tyX2 tyX2_ok nmX2 hown hE hS hw 0 mE_0 rfl 0 (by decide) (hts (.fieldLink RX2 66 "FormworkYardModel" "thrown" "I") (by decide +kernel)) rfl (ty := .int) (by decide +kernel) rfl rfl (Nat.le_of_ble_eq_true rfl) dX2_need_13 (fun H locs hw hS => ?_)
    have hw := hw.cong (mU_i 0 (by decide) (1))
    refine lv_aload_n hx hb dX2_need_16 rfl (lv_at hl 0 rfl) ?_
    refine zcallv (va_runV (As := []) (rest := []) ⟨hx, hb, hml, hown, hts⟩ (c_X2_worksAll l D cy A ad (va_up mi 0 (1)) ma _ hw (mOK_0.mpr hm0)) (cwV 0 hts gX2_need_X2_worksAll rfl rfl rfl (by decide +kernel) ⟨(Nat.le_of_ble_eq_true rfl), (Nat.le_of_ble_eq_true rfl)⟩) (zPV hE hS hw (ci := 2) (k0 := 0) rfl mE_0) rfl rfl hl.1 rfl (lv_room (Nat.le_of_ble_eq_true rfl)) dX2_need_17 ⟨(Nat.le_of_ble_eq_true rfl), (Nat.le_of_ble_eq_true rfl)⟩) hS (fun H1 locs hq hz1 hk1 hS => ?_)
    obtain ⟨ma_w17, hw, haU_17, haV_17⟩ := hq
    obtain ⟨hb7w, hr9w⟩ := zr9 (mOK_0.mpr hm0) haU_17 haV_17
    refine lv_aload_n hx hb dX2_need_20 rfl (lv_at hl 0 rfl) ?_
    refine zget (C := RX2) (T := TX2) (N := 19) hx hb hts hinX2 hown hE hw 0 mE_0 rfl 0 (by decide) (hts (.fieldLink RX2 66 "FormworkYardModel" "thrown" "I") (by decide +kernel)) rfl dX2_need_21 ?_
    refine zi_top (fun v_21 hv_21 => ?_)
    simp [va_up] at hv_21
    subst hv_21
    refine zf_le (tgt := 31) hx hb dX2_need_24 (by decide) (by first | decide | (constructor <;> omega)) (fun c_24 => ?_) (fun c_24 => ?_)
    · exfalso; omega
    · refine zi_const hx hb dX2_need_27 ?_
      refine lv_goto (tgt := 36) hx hb dX2_need_28 (by decide) ?_
      refine ziret hx hb hr hlocks hS (Nat.le_of_ble_eq_true rfl) (Nat.le_of_ble_eq_true rfl) (by first | decide | (constructor <;> omega)) ?_ dX2_need_36
      refine ⟨_, _, hw, aU_s haU_17, by (repeat' split) <;> omega, ?_⟩
      intro hc0
      first | (exfalso; omega) | exact hz33
  · refine zi_const hx hb dX2_need_8 ?_
    refine lv_goto (tgt := 13) hx hb dX2_need_9 (by decide) ?_
    refine zput (C := RX2) (T := TX2) (N := 19) hx hb hts hinX2 tyX2 tyX2_ok nmX2 hown hE hS hw 0 mE_0 rfl 0 (by decide) (hts (.fieldLink RX2 66 "FormworkYardModel" "thrown" "I") (by decide +kernel)) rfl (ty := .int) (by decide +kernel) rfl rfl (Nat.le_of_ble_eq_true rfl) dX2_need_13 (fun H locs hw hS => ?_)
    have hw := hw.cong (mU_i 0 (by decide) (0))
    refine lv_aload_n hx hb dX2_need_16 rfl (lv_at hl 0 rfl) ?_
    refine zcallv (va_runV (As := []) (rest := []) ⟨hx, hb, hml, hown, hts⟩ (c_X2_worksAll l D cy A ad (va_up mi 0 (0)) ma _ hw (mOK_0.mpr hm0)) (cwV 0 hts gX2_need_X2_worksAll rfl rfl rfl (by decide +kernel) ⟨(Nat.le_of_ble_eq_true rfl), (Nat.le_of_ble_eq_true rfl)⟩) (zPV hE hS hw (ci := 2) (k0 := 0) rfl mE_0) rfl rfl hl.1 rfl (lv_room (Nat.le_of_ble_eq_true rfl)) dX2_need_17 ⟨(Nat.le_of_ble_eq_true rfl), (Nat.le_of_ble_eq_true rfl)⟩) hS (fun H1 locs hq hz1 hk1 hS => ?_)
    obtain ⟨ma_w17, hw, haU_17, haV_17⟩ := hq
    obtain ⟨hb7w, hr9w⟩ := zr9 (mOK_0.mpr hm0) haU_17 haV_17
    refine lv_aload_n hx hb dX2_need_20 rfl (lv_at hl 0 rfl) ?_
    refine zget (C := RX2) (T := TX2) (N := 19) hx hb hts hinX2 hown hE hw 0 mE_0 rfl 0 (by decide) (hts (.fieldLink RX2 66 "FormworkYardModel" "thrown" "I") (by decide +kernel)) rfl dX2_need_21 ?_
    refine zi_top (fun v_21 hv_21 => ?_)
    simp [va_up] at hv_21
    subst hv_21
    refine zf_le (tgt := 31) hx hb dX2_need_24 (by decide) (by first | decide | (constructor <;> omega)) (fun c_24 => ?_) (fun c_24 => ?_)
    · refine lv_aload_n hx hb dX2_need_31 rfl (lv_at hl 0 rfl) ?_
      refine lv_iload_n hx hb dX2_need_32 rfl (lv_at hl 1 rfl) ?_
      refine zcalli (va_runV (As := [.int (iI (h))]) (rest := []) ⟨hx, hb, hml, hown, hts⟩ (c_X2_needOf l D cy A ad (va_up mi 0 (0)) ma_w17 _ (h) hw (by first | decide | (constructor <;> omega)) hb7w hr9w) (cwV 1 hts gX2_need_X2_needOf rfl rfl rfl (by decide +kernel) ⟨(Nat.le_of_ble_eq_true rfl), (Nat.le_of_ble_eq_true rfl)⟩) (zPV hE hS hw (ci := 2) (k0 := 0) rfl mE_0) rfl rfl hl.1 rfl (lv_room (Nat.le_of_ble_eq_true rfl)) dX2_need_33 ⟨(Nat.le_of_ble_eq_true rfl), (Nat.le_of_ble_eq_true rfl)⟩) hS (fun z_33 H1 locs hz_33 hq hz1 hk1 hS => ?_)
      obtain ⟨hqe, hv_33⟩ := hq
      replace hqe := hqe.symm
      subst hqe
      have hz33 : z_33 = nS mi ma h 10 := by rw [hv_33, nsum_nS haU_17 haV_17 10 (Nat.le_refl _), nS_0]
      refine ziret hx hb hr hlocks hS (Nat.le_of_ble_eq_true rfl) (Nat.le_of_ble_eq_true rfl) (by first | decide | (constructor <;> omega)) ?_ dX2_need_36
      refine ⟨_, _, hw, aU_s haU_17, by (repeat' split) <;> omega, ?_⟩
      intro hc0
      first | (exfalso; omega) | exact hz33
    · exfalso; omega

set_option maxHeartbeats 4000000 in
set_option maxRecDepth 100000 in
theorem c_X2_most (l : Launch) (D : va_G) (cy : Nat → ClassId) (A : Nat → Prop) (ad : Nat → Nat) (mi : Nat → Int) (ma : Nat → Nat → Int) (H0 : Heap) (hw : zW D A ad (mE cy ad mi ma) H0) (hm0 : mOK mi ma) : Met l yX2_most wsX2_most ({ frames := 5, cells := 0, slots := 0, locals := 108 }) (zPc D cy A [.ref (ad 0)] H0) (zQi (fun z H1 => ∃ mb, zW D A ad (mE cy ad mi mb) H1 ∧ aU ma mb ∧ z = mx (fun j : Nat => nS mi ma j 10) 1000) A) 0 0 A := by
  refine Met.ofW (cc := cX2_most) (maxL := 3) (ret := (some .int)) (by decide) rfl ?_
  intro pg en s mt args below meth c s₁ B hml hv
  obtain ⟨rfl, hH, hE⟩ := hv
  subst hH
  have hx := B.exec
  have hb := B.bytes
  have hr := B.returns
  have hts := atoms_spec (ws := wsX2_most) B.pre
  have hown : s.vm.findClass RX2 = some mt.cls := findClass_of_methodNamed B.named
  have hlocks := B.notSynchronized
  have hS : va_S A s.heap s.heap [] := va_S.rf
  have hl := lv_entry ([.ref (ad 0)]) (n := 3) (Nat.le_of_ble_eq_true rfl)
  rw [lg_entry_eq]
  generalize (lg_sl ([.ref (ad 0)]) ++ List.replicate (3 - (lg_sl ([.ref (ad 0)])).length) Slot.unset).toArray = ls at hl ⊢
  have hl : lv_has ls 3 [(0, .ref (ad 0))] := hl
  obtain ⟨ht, hg, hb7, hpo⟩ := id hm0
  refine lv_aload_n hx hb dX2_most_0 rfl (lv_at hl 0 rfl) ?_
  refine zcallv (va_runV (As := []) (rest := []) ⟨hx, hb, hml, hown, hts⟩ (c_X2_worksAll l D cy A ad mi ma _ hw hm0) (cwV 0 hts gX2_most_X2_worksAll rfl rfl rfl (by decide +kernel) ⟨(Nat.le_of_ble_eq_true rfl), (Nat.le_of_ble_eq_true rfl)⟩) (zPV hE hS hw (ci := 2) (k0 := 0) rfl mE_0) rfl rfl hl.1 rfl (lv_room (Nat.le_of_ble_eq_true rfl)) dX2_most_1 ⟨(Nat.le_of_ble_eq_true rfl), (Nat.le_of_ble_eq_true rfl)⟩) hS (fun H1 locs hq hz1 hk1 hS => ?_)
  obtain ⟨ma_w1, hw, haU_1, haV_1⟩ := hq
  obtain ⟨hb7w, hr9w⟩ := zr9 hm0 haU_1 haV_1
  refine zi_const hx hb dX2_most_4 ?_
  refine lv_istore_n (lv' := [(1, .int (iI (0))), (0, .ref (ad 0))]) hx hb dX2_most_5 rfl hl (by decide) rfl (fun ls hl => ?_)
  refine zi_const hx hb dX2_most_6 ?_
  refine lv_istore_n (lv' := [(2, .int (iI (0))), (1, .int (iI (0))), (0, .ref (ad 0))]) hx hb dX2_most_7 rfl hl (by decide) rfl (fun ls hl => ?_)
  have loop_8 : ∀ (n : Nat) (i : Nat) (w : Int) (H : Heap) (locs : List Loc) (ls : Array Slot), 1000 - i < n → (i ≤ 1000) → (w = mx (fun j : Nat => nS mi ma j 10) i) → zW D A ad (mE cy ad mi ma_w1) H → va_S A s.heap H locs → lv_has ls 3 [(2, .int (iI ((i : Int)))), (1, .int (iI (w))), (0, .ref (ad 0))] → W pg l en (headSpec wsX2_most ({ frames := 5, cells := 0, slots := 0, locals := 108 })).room s mt ([.ref (ad 0)] : List Value).toArray below meth c H locs 0 0 (MQ below (zQi (fun z H1 => ∃ mb, zW D A ad (mE cy ad mi mb) H1 ∧ aU ma mb ∧ z = mx (fun j : Nat => nS mi ma j 10) 1000) A) ([.ref (ad 0)] : List Value).toArray s 0 0 A) (F0 mt 8 ls []) := by
    intro n
    induction n with
    | zero =>
      intro i w H locs ls hm hi hk
      exfalso; omega
    | succ n ih =>
      intro i w H locs ls hm hi hk hw hS hl
      have hmb := mx_b (f := fun j : Nat => nS mi ma j 10) (b := 300) (by omega) (n := i) (fun k hk2 => (nS_b (fun q hq h7 => (hpo q (by omega) h7).2.2.1)).2)
      refine lv_iload_n hx hb dX2_most_8 rfl (lv_at hl 0 rfl) ?_
      refine zi_sipush hx hb dX2_most_9 (by decide) ?_
      refine zc_ge (tgt := 40) hx hb dX2_most_12 (by decide) (by first | decide | (constructor <;> omega)) (by first | decide | (constructor <;> omega)) (fun c_12 => ?_) (fun c_12 => ?_)
      · refine lv_iload_n hx hb dX2_most_40 rfl (lv_at hl 1 rfl) ?_
        refine ziret hx hb hr hlocks hS (Nat.le_of_ble_eq_true rfl) (Nat.le_of_ble_eq_true rfl) (by first | decide | (constructor <;> omega)) ?_ dX2_most_41
        exact ⟨_, hw, haU_1, by rw [hk, show i = 1000 by omega]⟩
      · refine lv_aload_n hx hb dX2_most_15 rfl (lv_at hl 2 rfl) ?_
        refine lv_iload_n hx hb dX2_most_16 rfl (lv_at hl 0 rfl) ?_
        refine zcalli (va_runV (As := [.int (iI ((i : Int)))]) (rest := []) ⟨hx, hb, hml, hown, hts⟩ (c_X2_needOf l D cy A ad mi ma_w1 _ ((i : Int)) hw (by first | decide | (constructor <;> omega)) hb7w hr9w) (cwV 1 hts gX2_most_X2_needOf rfl rfl rfl (by decide +kernel) ⟨(Nat.le_of_ble_eq_true rfl), (Nat.le_of_ble_eq_true rfl)⟩) (zPV hE hS hw (ci := 2) (k0 := 0) rfl mE_0) rfl rfl hl.1 rfl (lv_room (Nat.le_of_ble_eq_true rfl)) dX2_most_17 ⟨(Nat.le_of_ble_eq_true rfl), (Nat.le_of_ble_eq_true rfl)⟩) hS (fun z_17 H1 locs hz_17 hq hz1 hk1 hS => ?_)
        obtain ⟨hqe, hv_17⟩ := hq
        replace hqe := hqe.symm
        subst hqe
        have hz17 : z_17 = nS mi ma i 10 := by rw [hv_17]; exact nsum_nS haU_1 haV_1 10 (Nat.le_refl _)
        refine lv_iload_n hx hb dX2_most_20 rfl (lv_at hl 1 rfl) ?_
        refine zc_le (tgt := 32) hx hb dX2_most_21 (by decide) (by first | decide | (constructor <;> omega)) (by first | decide | (constructor <;> omega)) (fun c_21 => ?_) (fun c_21 => ?_)
        · refine lv_iload_n hx hb dX2_most_32 rfl (lv_at hl 1 rfl) ?_
          refine lv_istore_n (lv' := [(1, .int (iI (w))), (2, .int (iI ((i : Int)))), (0, .ref (ad 0))]) hx hb dX2_most_33 rfl hl (by decide) rfl (fun ls hl => ?_)
          refine zi_iinc (lv' := [(2, .int (iI ((i : Int) + 1))), (1, .int (iI (w))), (0, .ref (ad 0))]) hx hb dX2_most_34 hl (k := 1) rfl (by decide) rfl (fun ls hl => ?_)
          refine lv_goto (tgt := 8) hx hb dX2_most_37 (by decide) ?_
          exact ih (i + 1) w _ _ _ (by omega) (by omega) (by simp only [mx]; omega) hw hS (lv_sub hl [0, 1, 2] rfl)
        · refine lv_aload_n hx hb dX2_most_24 rfl (lv_at hl 2 rfl) ?_
          refine lv_iload_n hx hb dX2_most_25 rfl (lv_at hl 0 rfl) ?_
          refine zcalli (va_runV (As := [.int (iI ((i : Int)))]) (rest := []) ⟨hx, hb, hml, hown, hts⟩ (c_X2_needOf l D cy A ad mi ma_w1 _ ((i : Int)) hw (by first | decide | (constructor <;> omega)) hb7w hr9w) (cwV 1 hts gX2_most_X2_needOf rfl rfl rfl (by decide +kernel) ⟨(Nat.le_of_ble_eq_true rfl), (Nat.le_of_ble_eq_true rfl)⟩) (zPV hE hS hw (ci := 2) (k0 := 0) rfl mE_0) rfl rfl hl.1 rfl (lv_room (Nat.le_of_ble_eq_true rfl)) dX2_most_26 ⟨(Nat.le_of_ble_eq_true rfl), (Nat.le_of_ble_eq_true rfl)⟩) hS (fun z_26 H1 locs hz_26 hq hz1 hk1 hS => ?_)
          obtain ⟨hqe, hv_26⟩ := hq
          replace hqe := hqe.symm
          subst hqe
          have hz26 : z_26 = nS mi ma i 10 := by rw [hv_26]; exact nsum_nS haU_1 haV_1 10 (Nat.le_refl _)
          refine lv_goto (tgt := 33) hx hb dX2_most_29 (by decide) ?_
          refine lv_istore_n (lv' := [(1, .int (iI (z_26))), (2, .int (iI ((i : Int)))), (0, .ref (ad 0))]) hx hb dX2_most_33 rfl hl (by decide) rfl (fun ls hl => ?_)
          refine zi_iinc (lv' := [(2, .int (iI ((i : Int) + 1))), (1, .int (iI (z_26))), (0, .ref (ad 0))]) hx hb dX2_most_34 hl (k := 1) rfl (by decide) rfl (fun ls hl => ?_)
          refine lv_goto (tgt := 8) hx hb dX2_most_37 (by decide) ?_
          exact ih (i + 1) z_26 _ _ _ (by omega) (by omega) (by simp only [mx]; omega) hw hS (lv_sub hl [0, 1, 2] rfl)
  exact loop_8 1001 0 0 _ _ _ (by omega) (by omega) rfl hw hS (lv_sub hl [0, 1, 2] rfl)

set_option maxHeartbeats 4000000 in
set_option maxRecDepth 100000 in
theorem c_X2_peak (l : Launch) (D : va_G) (cy : Nat → ClassId) (A : Nat → Prop) (ad : Nat → Nat) (mi : Nat → Int) (ma : Nat → Nat → Int) (H0 : Heap) (hw : zW D A ad (mE cy ad mi ma) H0) (hm0 : mOK mi ma) : Met l yX2_peak wsX2_peak ({ frames := 6, cells := 0, slots := 0, locals := 130 }) (zPc D cy A [.ref (ad 0)] H0) (zQi (fun z H1 => ∃ mb, zW D A ad (mE cy ad (va_up mi 0 0) mb) H1 ∧ sU ma mb ∧ z = pkS mi ma) A) 0 0 A := by
  refine Met.ofW (cc := cX2_peak) (maxL := 1) (ret := (some .int)) (by decide) rfl ?_
  intro pg en s mt args below meth c s₁ B hml hv
  obtain ⟨rfl, hH, hE⟩ := hv
  subst hH
  have hx := B.exec
  have hb := B.bytes
  have hr := B.returns
  have hts := atoms_spec (ws := wsX2_peak) B.pre
  have hown : s.vm.findClass RX2 = some mt.cls := findClass_of_methodNamed B.named
  have hlocks := B.notSynchronized
  have hinX2 : ∀ w ∈ u_ws RX2 TX2 19, w ∈ wsX2_peak := by decide +kernel
  have hS : va_S A s.heap s.heap [] := va_S.rf
  have hl := lv_entry ([.ref (ad 0)]) (n := 1) (Nat.le_of_ble_eq_true rfl)
  rw [lg_entry_eq]
  generalize (lg_sl ([.ref (ad 0)]) ++ List.replicate (1 - (lg_sl ([.ref (ad 0)])).length) Slot.unset).toArray = ls at hl ⊢
  have hl : lv_has ls 1 [(0, .ref (ad 0))] := hl
  refine lv_aload_n hx hb dX2_peak_0 rfl (lv_at hl 0 rfl) ?_
  refine zi_const hx hb dX2_peak_1 ?_
  refine zput (C := RX2) (T := TX2) (N := 19) hx hb hts hinX2 tyX2 tyX2_ok nmX2 hown hE hS hw 0 mE_0 rfl 0 (by decide) (hts (.fieldLink RX2 66 "FormworkYardModel" "thrown" "I") (by decide +kernel)) rfl (ty := .int) (by decide +kernel) rfl rfl (Nat.le_of_ble_eq_true rfl) dX2_peak_2 (fun H locs hw hS => ?_)
  have hw := hw.cong (mU_i 0 (by decide) (0))
  refine lv_aload_n hx hb dX2_peak_5 rfl (lv_at hl 0 rfl) ?_
  refine zcalli (va_runV (As := []) (rest := []) ⟨hx, hb, hml, hown, hts⟩ (c_X2_most l D cy A ad (va_up mi 0 (0)) ma _ hw (mOK_0.mpr hm0)) (cwV 0 hts gX2_peak_X2_most rfl rfl rfl (by decide +kernel) ⟨(Nat.le_of_ble_eq_true rfl), (Nat.le_of_ble_eq_true rfl)⟩) (zPV hE hS hw (ci := 2) (k0 := 0) rfl mE_0) rfl rfl hl.1 rfl (lv_room (Nat.le_of_ble_eq_true rfl)) dX2_peak_6 ⟨(Nat.le_of_ble_eq_true rfl), (Nat.le_of_ble_eq_true rfl)⟩) hS (fun z_6 H1 locs hz_6 hq hz1 hk1 hS => ?_)
  obtain ⟨ma_w6, hw, haU_6, hv_6⟩ := hq
  refine ziret hx hb hr hlocks hS (Nat.le_of_ble_eq_true rfl) (Nat.le_of_ble_eq_true rfl) (by first | decide | (constructor <;> omega)) ?_ dX2_peak_9
  exact ⟨_, hw, aU_s haU_6, by rw [hv_6]; exact pkS_0⟩

set_option maxHeartbeats 4000000 in
set_option maxRecDepth 100000 in
theorem c_X2_peakByOverlaps (l : Launch) (D : va_G) (cy : Nat → ClassId) (A : Nat → Prop) (ad : Nat → Nat) (mi : Nat → Int) (ma : Nat → Nat → Int) (H0 : Heap) (hw : zW D A ad (mE cy ad mi ma) H0) (hm0 : mOK mi ma) : Met l yX2_peakByOverlaps wsX2_peakByOverlaps ({ frames := 6, cells := 0, slots := 0, locals := 130 }) (zPc D cy A [.ref (ad 0)] H0) (zQi (fun z H1 => ∃ mb, zW D A ad (mE cy ad (va_up mi 0 0) mb) H1 ∧ sU ma mb ∧ z = pkS mi ma) A) 0 0 A := by
  refine Met.ofW (cc := cX2_peakByOverlaps) (maxL := 1) (ret := (some .int)) (by decide) rfl ?_
  intro pg en s mt args below meth c s₁ B hml hv
  obtain ⟨rfl, hH, hE⟩ := hv
  subst hH
  have hx := B.exec
  have hb := B.bytes
  have hr := B.returns
  have hts := atoms_spec (ws := wsX2_peakByOverlaps) B.pre
  have hown : s.vm.findClass RX2 = some mt.cls := findClass_of_methodNamed B.named
  have hlocks := B.notSynchronized
  have hinX2 : ∀ w ∈ u_ws RX2 TX2 19, w ∈ wsX2_peakByOverlaps := by decide +kernel
  have hS : va_S A s.heap s.heap [] := va_S.rf
  have hl := lv_entry ([.ref (ad 0)]) (n := 1) (Nat.le_of_ble_eq_true rfl)
  rw [lg_entry_eq]
  generalize (lg_sl ([.ref (ad 0)]) ++ List.replicate (1 - (lg_sl ([.ref (ad 0)])).length) Slot.unset).toArray = ls at hl ⊢
  have hl : lv_has ls 1 [(0, .ref (ad 0))] := hl
  refine lv_aload_n hx hb dX2_peakByOverlaps_0 rfl (lv_at hl 0 rfl) ?_
  refine zi_const hx hb dX2_peakByOverlaps_1 ?_
  refine zput (C := RX2) (T := TX2) (N := 19) hx hb hts hinX2 tyX2 tyX2_ok nmX2 hown hE hS hw 0 mE_0 rfl 0 (by decide) (hts (.fieldLink RX2 66 "FormworkYardModel" "thrown" "I") (by decide +kernel)) rfl (ty := .int) (by decide +kernel) rfl rfl (Nat.le_of_ble_eq_true rfl) dX2_peakByOverlaps_2 (fun H locs hw hS => ?_)
  have hw := hw.cong (mU_i 0 (by decide) (0))
  refine lv_aload_n hx hb dX2_peakByOverlaps_5 rfl (lv_at hl 0 rfl) ?_
  refine zcalli (va_runV (As := []) (rest := []) ⟨hx, hb, hml, hown, hts⟩ (c_X2_most l D cy A ad (va_up mi 0 (0)) ma _ hw (mOK_0.mpr hm0)) (cwV 0 hts gX2_peakByOverlaps_X2_most rfl rfl rfl (by decide +kernel) ⟨(Nat.le_of_ble_eq_true rfl), (Nat.le_of_ble_eq_true rfl)⟩) (zPV hE hS hw (ci := 2) (k0 := 0) rfl mE_0) rfl rfl hl.1 rfl (lv_room (Nat.le_of_ble_eq_true rfl)) dX2_peakByOverlaps_6 ⟨(Nat.le_of_ble_eq_true rfl), (Nat.le_of_ble_eq_true rfl)⟩) hS (fun z_6 H1 locs hz_6 hq hz1 hk1 hS => ?_)
  obtain ⟨ma_w6, hw, haU_6, hv_6⟩ := hq
  refine ziret hx hb hr hlocks hS (Nat.le_of_ble_eq_true rfl) (Nat.le_of_ble_eq_true rfl) (by first | decide | (constructor <;> omega)) ?_ dX2_peakByOverlaps_9
  exact ⟨_, hw, aU_s haU_6, by rw [hv_6]; exact pkS_0⟩

set_option maxHeartbeats 4000000 in
set_option maxRecDepth 100000 in
theorem c_X2_firstShort (l : Launch) (D : va_G) (cy : Nat → ClassId) (A : Nat → Prop) (ad : Nat → Nat) (mi : Nat → Int) (ma : Nat → Nat → Int) (H0 : Heap) (hw : zW D A ad (mE cy ad mi ma) H0) (hm0 : mOK mi ma) : Met l yX2_firstShort wsX2_firstShort ({ frames := 5, cells := 0, slots := 0, locals := 108 }) (zPc D cy A [.ref (ad 0)] H0) (zQi (fun z H1 => ∃ mb, zW D A ad (mE cy ad (va_up mi 0 0) mb) H1 ∧ sU ma mb ∧ z = fsS mi ma) A) 0 0 A := by
  refine Met.ofW (cc := cX2_firstShort) (maxL := 3) (ret := (some .int)) (by decide) rfl ?_
  intro pg en s mt args below meth c s₁ B hml hv
  obtain ⟨rfl, hH, hE⟩ := hv
  subst hH
  have hx := B.exec
  have hb := B.bytes
  have hr := B.returns
  have hts := atoms_spec (ws := wsX2_firstShort) B.pre
  have hown : s.vm.findClass RX2 = some mt.cls := findClass_of_methodNamed B.named
  have hlocks := B.notSynchronized
  have hinX2 : ∀ w ∈ u_ws RX2 TX2 19, w ∈ wsX2_firstShort := by decide +kernel
  have hS : va_S A s.heap s.heap [] := va_S.rf
  have hl := lv_entry ([.ref (ad 0)]) (n := 3) (Nat.le_of_ble_eq_true rfl)
  rw [lg_entry_eq]
  generalize (lg_sl ([.ref (ad 0)]) ++ List.replicate (3 - (lg_sl ([.ref (ad 0)])).length) Slot.unset).toArray = ls at hl ⊢
  have hl : lv_has ls 3 [(0, .ref (ad 0))] := hl
  obtain ⟨ht, hg, hb7, hpo⟩ := id hm0
  obtain ⟨g1, g2, g3, g4, g5⟩ := id hg
  refine lv_aload_n hx hb dX2_firstShort_0 rfl (lv_at hl 0 rfl) ?_
  refine zi_const hx hb dX2_firstShort_1 ?_
  refine zput (C := RX2) (T := TX2) (N := 19) hx hb hts hinX2 tyX2 tyX2_ok nmX2 hown hE hS hw 0 mE_0 rfl 0 (by decide) (hts (.fieldLink RX2 66 "FormworkYardModel" "thrown" "I") (by decide +kernel)) rfl (ty := .int) (by decide +kernel) rfl rfl (Nat.le_of_ble_eq_true rfl) dX2_firstShort_2 (fun H locs hw hS => ?_)
  have hw := hw.cong (mU_i 0 (by decide) (0))
  refine lv_aload_n hx hb dX2_firstShort_5 rfl (lv_at hl 0 rfl) ?_
  refine zcallv (va_runV (As := []) (rest := []) ⟨hx, hb, hml, hown, hts⟩ (c_X2_worksAll l D cy A ad (va_up mi 0 (0)) ma _ hw (mOK_0.mpr hm0)) (cwV 0 hts gX2_firstShort_X2_worksAll rfl rfl rfl (by decide +kernel) ⟨(Nat.le_of_ble_eq_true rfl), (Nat.le_of_ble_eq_true rfl)⟩) (zPV hE hS hw (ci := 2) (k0 := 0) rfl mE_0) rfl rfl hl.1 rfl (lv_room (Nat.le_of_ble_eq_true rfl)) dX2_firstShort_6 ⟨(Nat.le_of_ble_eq_true rfl), (Nat.le_of_ble_eq_true rfl)⟩) hS (fun H1 locs hq hz1 hk1 hS => ?_)
  obtain ⟨ma_w6, hw, haU_6, haV_6⟩ := hq
  obtain ⟨hb7w, hr9w⟩ := zr9 (mOK_0.mpr hm0) haU_6 haV_6
  refine zi_const hx hb dX2_firstShort_9 ?_
  refine lv_istore_n (lv' := [(1, .int (iI ((-1)))), (0, .ref (ad 0))]) hx hb dX2_firstShort_10 rfl hl (by decide) rfl (fun ls hl => ?_)
  refine zi_sipush hx hb dX2_firstShort_11 (by decide) ?_
  refine lv_istore_n (lv' := [(2, .int (iI (999))), (1, .int (iI ((-1)))), (0, .ref (ad 0))]) hx hb dX2_firstShort_14 rfl hl (by decide) rfl (fun ls hl => ?_)
  have loop_15 : ∀ (n : Nat) (h w : Int) (H : Heap) (locs : List Loc) (ls : Array Slot), (h + 1).toNat < n → (-1 ≤ h ∧ h ≤ 999) → (-1 ≤ w ∧ w ≤ 999) → (w = if fnd (fun h => mi 2 < nS mi ma h 10) (h + 1) (1000 - (h + 1)).toNat < 1000 then fnd (fun h => mi 2 < nS mi ma h 10) (h + 1) (1000 - (h + 1)).toNat else -1) → zW D A ad (mE cy ad (va_up mi 0 (0)) ma_w6) H → va_S A s.heap H locs → lv_has ls 3 [(2, .int (iI (h))), (1, .int (iI (w))), (0, .ref (ad 0))] → W pg l en (headSpec wsX2_firstShort ({ frames := 5, cells := 0, slots := 0, locals := 108 })).room s mt ([.ref (ad 0)] : List Value).toArray below meth c H locs 0 0 (MQ below (zQi (fun z H1 => ∃ mb, zW D A ad (mE cy ad (va_up mi 0 0) mb) H1 ∧ sU ma mb ∧ z = fsS mi ma) A) ([.ref (ad 0)] : List Value).toArray s 0 0 A) (F0 mt 15 ls []) := by
    intro n
    induction n with
    | zero =>
      intro h w H locs ls hm hi hj hk
      exfalso; omega
    | succ n ih =>
      intro h w H locs ls hm hi hj hk hw hS hl
      refine lv_iload_n hx hb dX2_firstShort_15 rfl (lv_at hl 0 rfl) ?_
      refine zf_lt (tgt := 43) hx hb dX2_firstShort_16 (by decide) (by first | decide | (constructor <;> omega)) (fun c_16 => ?_) (fun c_16 => ?_)
      · refine lv_iload_n hx hb dX2_firstShort_43 rfl (lv_at hl 1 rfl) ?_
        refine ziret hx hb hr hlocks hS (Nat.le_of_ble_eq_true rfl) (Nat.le_of_ble_eq_true rfl) (by first | decide | (constructor <;> omega)) ?_ dX2_firstShort_44
        refine ⟨_, hw, aU_s haU_6, ?_⟩
        rw [hk, show h = -1 by omega]
        rfl
      · refine lv_aload_n hx hb dX2_firstShort_19 rfl (lv_at hl 2 rfl) ?_
        refine lv_iload_n hx hb dX2_firstShort_20 rfl (lv_at hl 0 rfl) ?_
        refine zcalli (va_runV (As := [.int (iI (h))]) (rest := []) ⟨hx, hb, hml, hown, hts⟩ (c_X2_needOf l D cy A ad (va_up mi 0 (0)) ma_w6 _ (h) hw (by first | decide | (constructor <;> omega)) hb7w hr9w) (cwV 1 hts gX2_firstShort_X2_needOf rfl rfl rfl (by decide +kernel) ⟨(Nat.le_of_ble_eq_true rfl), (Nat.le_of_ble_eq_true rfl)⟩) (zPV hE hS hw (ci := 2) (k0 := 0) rfl mE_0) rfl rfl hl.1 rfl (lv_room (Nat.le_of_ble_eq_true rfl)) dX2_firstShort_21 ⟨(Nat.le_of_ble_eq_true rfl), (Nat.le_of_ble_eq_true rfl)⟩) hS (fun z_21 H1 locs hz_21 hq hz1 hk1 hS => ?_)
        obtain ⟨hqe, hv_21⟩ := hq
        replace hqe := hqe.symm
        subst hqe
        have hz21 : z_21 = nS mi ma h 10 := by rw [hv_21, nsum_nS haU_6 haV_6 10 (Nat.le_refl _), nS_0]
        refine lv_aload_n hx hb dX2_firstShort_24 rfl (lv_at hl 2 rfl) ?_
        refine zget (C := RX2) (T := TX2) (N := 19) hx hb hts hinX2 hown hE hw 0 mE_0 rfl 2 (by decide) (hts (.fieldLink RX2 13 "FormworkYardModel" "panels" "I") (by decide +kernel)) rfl dX2_firstShort_25 ?_
        refine zi_top (fun v_25 hv_25 => ?_)
        simp [va_up] at hv_25
        refine zc_le (tgt := 35) hx hb dX2_firstShort_28 (by decide) (by first | decide | (constructor <;> omega)) (by first | decide | (constructor <;> omega)) (fun c_28 => ?_) (fun c_28 => ?_)
        · refine lv_iload_n hx hb dX2_firstShort_35 rfl (lv_at hl 1 rfl) ?_
          refine lv_istore_n (lv' := [(1, .int (iI (w))), (2, .int (iI (h))), (0, .ref (ad 0))]) hx hb dX2_firstShort_36 rfl hl (by decide) rfl (fun ls hl => ?_)
          refine zi_iinc (lv' := [(2, .int (iI (h + (-1)))), (1, .int (iI (w))), (0, .ref (ad 0))]) hx hb dX2_firstShort_37 hl (k := 1) rfl (by decide) rfl (fun ls hl => ?_)
          refine lv_goto (tgt := 15) hx hb dX2_firstShort_40 (by decide) ?_
          have hst : fnd (fun h => mi 2 < nS mi ma h 10) h (1000 - h).toNat = if mi 2 < nS mi ma h 10 then h else fnd (fun h => mi 2 < nS mi ma h 10) (h + 1) (1000 - (h + 1)).toNat := fnd_s _ (by omega)
          rw [if_neg (by omega)] at hst
          exact ih (h + (-1)) w _ _ _ (by omega) (by omega) (by omega) (by rw [show h + (-1) + 1 = h by omega, hst]; exact hk) hw hS (lv_sub hl [0, 1, 2] rfl)
        · refine lv_iload_n hx hb dX2_firstShort_31 rfl (lv_at hl 0 rfl) ?_
          refine lv_goto (tgt := 36) hx hb dX2_firstShort_32 (by decide) ?_
          refine lv_istore_n (lv' := [(1, .int (iI (h))), (2, .int (iI (h))), (0, .ref (ad 0))]) hx hb dX2_firstShort_36 rfl hl (by decide) rfl (fun ls hl => ?_)
          refine zi_iinc (lv' := [(2, .int (iI (h + (-1)))), (1, .int (iI (h))), (0, .ref (ad 0))]) hx hb dX2_firstShort_37 hl (k := 1) rfl (by decide) rfl (fun ls hl => ?_)
          refine lv_goto (tgt := 15) hx hb dX2_firstShort_40 (by decide) ?_
          have hst : fnd (fun h => mi 2 < nS mi ma h 10) h (1000 - h).toNat = if mi 2 < nS mi ma h 10 then h else fnd (fun h => mi 2 < nS mi ma h 10) (h + 1) (1000 - (h + 1)).toNat := fnd_s _ (by omega)
          rw [if_pos (by omega)] at hst
          exact ih (h + (-1)) h _ _ _ (by omega) (by omega) (by omega) (by rw [show h + (-1) + 1 = h by omega, hst]; rw [if_pos (by omega)]) hw hS (lv_sub hl [0, 1, 2] rfl)
  exact loop_15 1001 999 (-1) _ _ _ (by omega) (by omega) (by omega) (by rw [fnd_e _ (by omega)]; decide) hw hS (lv_sub hl [0, 1, 2] rfl)

set_option maxHeartbeats 4000000 in
set_option maxRecDepth 100000 in
theorem c_X2_fits (l : Launch) (D : va_G) (cy : Nat → ClassId) (A : Nat → Prop) (ad : Nat → Nat) (mi : Nat → Int) (ma : Nat → Nat → Int) (H0 : Heap) (hw : zW D A ad (mE cy ad mi ma) H0) (ht : tOK (ma 1)) (hg : gOK mi) (hp10 : pOK ma 10) (hb7 : ∀ j, j < 11 → ma 7 j = 0 ∨ ma 7 j = 1) (hr9 : ∀ q, q < 10 → ma 7 q = 1 → zr (ma 15 q) ∧ zr (ma 17 q) ∧ 1 ≤ ma 10 q ∧ ma 10 q ≤ 30) : Met l yX2_fits wsX2_fits ({ frames := 4, cells := 0, slots := 0, locals := 87 }) (zPc D cy A [.ref (ad 0)] H0) (zQi (fun z H1 => ∃ mb, zW D A ad (mE cy ad mi mb) H1 ∧ wU 10 ma mb ∧ ((z = 1 ∧ fitU (fun h => nsum ma h 10) (mi 2) (ma 10 10) (stS mi ma 10) (frS mi ma 10)) ∨ (z = 0 ∧ ¬ fitU (fun h => nsum ma h 10) (mi 2) (ma 10 10) (stS mi ma 10) (frS mi ma 10)))) A) 0 0 A := by
  refine Met.ofW (cc := cX2_fits) (maxL := 3) (ret := (some .boolean)) (by decide) rfl ?_
  intro pg en s mt args below meth c s₁ B hml hv
  obtain ⟨rfl, hH, hE⟩ := hv
  subst hH
  have hx := B.exec
  have hb := B.bytes
  have hr := B.returns
  have hts := atoms_spec (ws := wsX2_fits) B.pre
  have hown : s.vm.findClass RX2 = some mt.cls := findClass_of_methodNamed B.named
  have hlocks := B.notSynchronized
  have hinX2 : ∀ w ∈ u_ws RX2 TX2 19, w ∈ wsX2_fits := by decide +kernel
  have hS : va_S A s.heap s.heap [] := va_S.rf
  have hl := lv_entry ([.ref (ad 0)]) (n := 3) (Nat.le_of_ble_eq_true rfl)
  rw [lg_entry_eq]
  generalize (lg_sl ([.ref (ad 0)]) ++ List.replicate (3 - (lg_sl ([.ref (ad 0)])).length) Slot.unset).toArray = ls at hl ⊢
  have hl : lv_has ls 3 [(0, .ref (ad 0))] := hl
  obtain ⟨q1, q2, q3, q4, q5, q6⟩ := id hp10
  obtain ⟨g1, g2, g3, g4, g5⟩ := id hg
  refine lv_aload_n hx hb dX2_fits_0 rfl (lv_at hl 0 rfl) ?_
  refine zi_bipush hx hb dX2_fits_1 (by decide) ?_
  refine zcallv (va_runV (As := [.int (iI (10))]) (rest := []) ⟨hx, hb, hml, hown, hts⟩ (c_X2_works l D cy A ad mi ma _ 10 hw (by omega) ht hg hp10) (cwV 1 hts gX2_fits_X2_works rfl rfl rfl (by decide +kernel) ⟨(Nat.le_of_ble_eq_true rfl), (Nat.le_of_ble_eq_true rfl)⟩) (zPV hE hS hw (ci := 2) (k0 := 0) rfl mE_0) rfl rfl hl.1 rfl (lv_room (Nat.le_of_ble_eq_true rfl)) dX2_fits_3 ⟨(Nat.le_of_ble_eq_true rfl), (Nat.le_of_ble_eq_true rfl)⟩) hS (fun H1 locs hq hz1 hk1 hS => ?_)
  obtain ⟨ma_w3, hw, hwU_3, hwV_3⟩ := hq
  have hwb := wV_b hg hp10 hwV_3
  have e7 : ma_w3 7 = ma 7 := wU_row hwU_3 (by omega)
  have e10 : ma_w3 10 = ma 10 := wU_row hwU_3 (by omega)
  have hb7w : ∀ j, j < 11 → ma_w3 7 j = 0 ∨ ma_w3 7 j = 1 := by rw [e7]; exact hb7
  have hr9w : ∀ q, q < 10 → ma_w3 7 q = 1 → zr (ma_w3 15 q) ∧ zr (ma_w3 17 q) ∧ 1 ≤ ma_w3 10 q ∧ ma_w3 10 q ≤ 30 := fun q hq h7 => by rw [e7] at h7; rw [hwU_3 15 q (by omega), hwU_3 17 q (by omega), e10]; exact hr9 q hq h7
  have h15 : ma_w3 15 10 = stS mi ma 10 := hwV_3.1
  have h17 : ma_w3 17 10 = frS mi ma 10 := hwV_3.2.2
  refine zi_const hx hb dX2_fits_6 ?_
  refine lv_istore_n (lv' := [(1, .int (iI (1))), (0, .ref (ad 0))]) hx hb dX2_fits_7 rfl hl (by decide) rfl (fun ls hl => ?_)
  refine lv_aload_n hx hb dX2_fits_8 rfl (lv_at hl 1 rfl) ?_
  refine zget (C := RX2) (T := TX2) (N := 19) hx hb hts hinX2 hown hE hw 0 mE_0 rfl 15 (by decide) (hts (.fieldLink RX2 54 "FormworkYardModel" "stands" "[I") (by decide +kernel)) rfl dX2_fits_9 ?_
  refine zi_bipush hx hb dX2_fits_12 (by decide) ?_
  refine ziald hx hb hE hw 15 (mE_a 15 (by decide) rfl) 10 rfl (by omega) (by omega) dX2_fits_14 ?_
  refine zi_top (fun v_14 hv_14 => ?_)
  rw [h15] at hv_14
  refine lv_istore_n (lv' := [(2, .int (iI (v_14))), (1, .int (iI (1))), (0, .ref (ad 0))]) hx hb dX2_fits_15 rfl hl (by decide) rfl (fun ls hl => ?_)
  have loop_16 : ∀ (n : Nat) (h w : Int) (H : Heap) (locs : List Loc) (ls : Array Slot), (1000 - h).toNat < n → (stS mi ma 10 ≤ h ∧ h ≤ 1000) → ((w = 1 ∧ ∀ x, stS mi ma 10 ≤ x → x < h → nsum ma x 10 + ma 10 10 ≤ mi 2) ∨ (w = 0 ∧ ∃ x, stS mi ma 10 ≤ x ∧ x < frS mi ma 10 ∧ x < 1000 ∧ mi 2 < nsum ma x 10 + ma 10 10)) → zW D A ad (mE cy ad mi ma_w3) H → va_S A s.heap H locs → lv_has ls 3 [(2, .int (iI (h))), (1, .int (iI (w))), (0, .ref (ad 0))] → W pg l en (headSpec wsX2_fits ({ frames := 4, cells := 0, slots := 0, locals := 87 })).room s mt ([.ref (ad 0)] : List Value).toArray below meth c H locs 0 0 (MQ below (zQi (fun z H1 => ∃ mb, zW D A ad (mE cy ad mi mb) H1 ∧ wU 10 ma mb ∧ ((z = 1 ∧ fitU (fun h => nsum ma h 10) (mi 2) (ma 10 10) (stS mi ma 10) (frS mi ma 10)) ∨ (z = 0 ∧ ¬ fitU (fun h => nsum ma h 10) (mi 2) (ma 10 10) (stS mi ma 10) (frS mi ma 10)))) A) ([.ref (ad 0)] : List Value).toArray s 0 0 A) (F0 mt 16 ls []) := by
    intro n
    induction n with
    | zero =>
      intro h w H locs ls hm hi hk
      exfalso; omega
    | succ n ih =>
      intro h w H locs ls hm hi hk hw hS hl
      refine lv_iload_n hx hb dX2_fits_16 rfl (lv_at hl 0 rfl) ?_
      refine zi_sipush hx hb dX2_fits_17 (by decide) ?_
      refine zc_ge (tgt := 70) hx hb dX2_fits_20 (by decide) (by first | decide | (constructor <;> omega)) (by first | decide | (constructor <;> omega)) (fun c_20 => ?_) (fun c_20 => ?_)
      · refine lv_iload_n hx hb dX2_fits_70 rfl (lv_at hl 1 rfl) ?_
        refine zzret hx hb hr hlocks hS (Nat.le_of_ble_eq_true rfl) (Nat.le_of_ble_eq_true rfl) (by omega) ?_ dX2_fits_71
        refine ⟨_, hw, hwU_3, ?_⟩
        rcases hk with hk | hk
        · refine Or.inl ⟨hk.1, fun x h1 h2 h3 => hk.2 x h1 (by omega)⟩
        · obtain ⟨hk0, x, h1, h2, h3, h4⟩ := hk
          exact Or.inr ⟨hk0, fun hf => by have := hf x h1 h2 h3; simp only [] at this; omega⟩
      · refine lv_iload_n hx hb dX2_fits_23 rfl (lv_at hl 0 rfl) ?_
        refine lv_aload_n hx hb dX2_fits_24 rfl (lv_at hl 2 rfl) ?_
        refine zget (C := RX2) (T := TX2) (N := 19) hx hb hts hinX2 hown hE hw 0 mE_0 rfl 17 (by decide) (hts (.fieldLink RX2 60 "FormworkYardModel" "frees" "[I") (by decide +kernel)) rfl dX2_fits_25 ?_
        refine zi_bipush hx hb dX2_fits_28 (by decide) ?_
        refine ziald hx hb hE hw 17 (mE_a 17 (by decide) rfl) 10 rfl (by omega) (by omega) dX2_fits_30 ?_
        refine zi_top (fun v_30 hv_30 => ?_)
        rw [h17] at hv_30
        refine zc_ge (tgt := 70) hx hb dX2_fits_31 (by decide) (by first | decide | (constructor <;> omega)) (by first | decide | (constructor <;> omega)) (fun c_31 => ?_) (fun c_31 => ?_)
        · refine lv_iload_n hx hb dX2_fits_70 rfl (lv_at hl 1 rfl) ?_
          refine zzret hx hb hr hlocks hS (Nat.le_of_ble_eq_true rfl) (Nat.le_of_ble_eq_true rfl) (by omega) ?_ dX2_fits_71
          refine ⟨_, hw, hwU_3, ?_⟩
          rcases hk with hk | hk
          · refine Or.inl ⟨hk.1, fun x h1 h2 h3 => hk.2 x h1 (by omega)⟩
          · obtain ⟨hk0, x, h1, h2, h3, h4⟩ := hk
            exact Or.inr ⟨hk0, fun hf => by have := hf x h1 h2 h3; simp only [] at this; omega⟩
        · refine lv_iload_n hx hb dX2_fits_34 rfl (lv_at hl 1 rfl) ?_
          refine zf_eq (tgt := 70) hx hb dX2_fits_35 (by decide) (by first | decide | (constructor <;> omega)) (fun c_35 => ?_) (fun c_35 => ?_)
          · refine lv_iload_n hx hb dX2_fits_70 rfl (lv_at hl 1 rfl) ?_
            refine zzret hx hb hr hlocks hS (Nat.le_of_ble_eq_true rfl) (Nat.le_of_ble_eq_true rfl) (by omega) ?_ dX2_fits_71
            refine ⟨_, hw, hwU_3, ?_⟩
            rcases hk with hk | hk
            · refine Or.inl ⟨hk.1, fun x h1 h2 h3 => hk.2 x h1 (by omega)⟩
            · obtain ⟨hk0, x, h1, h2, h3, h4⟩ := hk
              exact Or.inr ⟨hk0, fun hf => by have := hf x h1 h2 h3; simp only [] at this; omega⟩
          · refine lv_aload_n hx hb dX2_fits_38 rfl (lv_at hl 2 rfl) ?_
            refine lv_iload_n hx hb dX2_fits_39 rfl (lv_at hl 0 rfl) ?_
            refine zcalli (va_runV (As := [.int (iI (h))]) (rest := []) ⟨hx, hb, hml, hown, hts⟩ (c_X2_needOf l D cy A ad mi ma_w3 _ (h) hw (by first | decide | (constructor <;> omega)) hb7w hr9w) (cwV 1 hts gX2_fits_X2_needOf rfl rfl rfl (by decide +kernel) ⟨(Nat.le_of_ble_eq_true rfl), (Nat.le_of_ble_eq_true rfl)⟩) (zPV hE hS hw (ci := 2) (k0 := 0) rfl mE_0) rfl rfl hl.1 rfl (lv_room (Nat.le_of_ble_eq_true rfl)) dX2_fits_40 ⟨(Nat.le_of_ble_eq_true rfl), (Nat.le_of_ble_eq_true rfl)⟩) hS (fun z_40 H1 locs hz_40 hq hz1 hk1 hS => ?_)
            obtain ⟨hqe, hv_40⟩ := hq
            replace hqe := hqe.symm
            subst hqe
            have hz40 : z_40 = nsum ma h 10 := by rw [hv_40]; exact nsum_c 10 (fun p hp => ⟨by rw [e7], hwU_3 15 p (by omega), hwU_3 17 p (by omega), by rw [e10]⟩)
            have hnb := nsum_b (ma := ma) (h := h) (n := 10) (fun q hq h7 => (hr9 q hq h7).2.2)
            refine lv_aload_n hx hb dX2_fits_43 rfl (lv_at hl 2 rfl) ?_
            refine zget (C := RX2) (T := TX2) (N := 19) hx hb hts hinX2 hown hE hw 0 mE_0 rfl 10 (by decide) (hts (.fieldLink RX2 39 "FormworkYardModel" "needs" "[I") (by decide +kernel)) rfl dX2_fits_44 ?_
            refine zi_bipush hx hb dX2_fits_47 (by decide) ?_
            refine ziald hx hb hE hw 10 (mE_a 10 (by decide) rfl) 10 rfl (by omega) (by omega) dX2_fits_49 ?_
            refine zi_top (fun v_49 hv_49 => ?_)
            rw [e10] at hv_49
            refine zi_add hx hb dX2_fits_50 ?_
            refine lv_aload_n hx hb dX2_fits_51 rfl (lv_at hl 2 rfl) ?_
            refine zget (C := RX2) (T := TX2) (N := 19) hx hb hts hinX2 hown hE hw 0 mE_0 rfl 2 (by decide) (hts (.fieldLink RX2 13 "FormworkYardModel" "panels" "I") (by decide +kernel)) rfl dX2_fits_52 ?_
            refine zc_gt (tgt := 62) hx hb dX2_fits_55 (by decide) (by first | decide | (constructor <;> omega)) (by first | decide | (constructor <;> omega)) (fun c_55 => ?_) (fun c_55 => ?_)
            · refine zi_const hx hb dX2_fits_62 ?_
              refine lv_istore_n (lv' := [(1, .int (iI (0))), (2, .int (iI (h))), (0, .ref (ad 0))]) hx hb dX2_fits_63 rfl hl (by decide) rfl (fun ls hl => ?_)
              refine zi_iinc (lv' := [(2, .int (iI (h + 1))), (1, .int (iI (0))), (0, .ref (ad 0))]) hx hb dX2_fits_64 hl (k := 1) rfl (by decide) rfl (fun ls hl => ?_)
              refine lv_goto (tgt := 16) hx hb dX2_fits_67 (by decide) ?_
              exact ih (h + 1) 0 _ _ _ (by omega) (by omega) (Or.inr ⟨rfl, h, hi.1, by omega, by omega, by omega⟩) hw hS (lv_sub hl [0, 1, 2] rfl)
            · refine zi_const hx hb dX2_fits_58 ?_
              refine lv_goto (tgt := 63) hx hb dX2_fits_59 (by decide) ?_
              refine lv_istore_n (lv' := [(1, .int (iI (1))), (2, .int (iI (h))), (0, .ref (ad 0))]) hx hb dX2_fits_63 rfl hl (by decide) rfl (fun ls hl => ?_)
              refine zi_iinc (lv' := [(2, .int (iI (h + 1))), (1, .int (iI (1))), (0, .ref (ad 0))]) hx hb dX2_fits_64 hl (k := 1) rfl (by decide) rfl (fun ls hl => ?_)
              refine lv_goto (tgt := 16) hx hb dX2_fits_67 (by decide) ?_
              exact ih (h + 1) 1 _ _ _ (by omega) (by omega) (Or.inl ⟨rfl, fun x h1 h2 => by rcases hk with hk | hk; (by_cases hxh : x = h; (subst hxh; omega); exact hk.2 x h1 (by omega)); omega⟩) hw hS (lv_sub hl [0, 1, 2] rfl)
  exact loop_16 1001 v_14 1 _ _ _ (by omega) (by omega) (Or.inl ⟨rfl, fun x h1 h2 => absurd h1 (by omega)⟩) hw hS (lv_sub hl [0, 1, 2] rfl)

set_option maxHeartbeats 4000000 in
set_option maxRecDepth 100000 in
theorem c_X2_earliest (l : Launch) (D : va_G) (cy : Nat → ClassId) (A : Nat → Prop) (ad : Nat → Nat) (mi : Nat → Int) (ma : Nat → Nat → Int) (H0 : Heap) (a b d f : Int) (hw : zW D A ad (mE cy ad mi ma) H0) (h1 : zr a) (h2 : zr b) (h3 : zr d) (h4 : zr f) (hm0 : mOK mi ma) : Met l yX2_earliest wsX2_earliest ({ frames := 5, cells := 0, slots := 0, locals := 109 }) (zPc D cy A [.ref (ad 0), .int (iI (a)), .int (iI (b)), .int (iI (d)), .int (iI (f))] H0) (zQi (fun z H1 => ∃ (c : Int) (mb : Nat → Nat → Int), zW D A ad (mE cy ad (va_up mi 0 c) mb) H1 ∧ sU ma mb ∧ c = (if plOK a b d f then 0 else 1) ∧ (c = 0 → earS mi ma a b d f z)) A) 0 0 A := by
  refine Met.ofW (cc := cX2_earliest) (maxL := 6) (ret := (some .int)) (by decide) rfl ?_
  intro pg en s mt args below meth c s₁ B hml hv
  obtain ⟨rfl, hH, hE⟩ := hv
  subst hH
  have hx := B.exec
  have hb := B.bytes
  have hr := B.returns
  have hts := atoms_spec (ws := wsX2_earliest) B.pre
  have hown : s.vm.findClass RX2 = some mt.cls := findClass_of_methodNamed B.named
  have hlocks := B.notSynchronized
  have hinX2 : ∀ w ∈ u_ws RX2 TX2 19, w ∈ wsX2_earliest := by decide +kernel
  have hS : va_S A s.heap s.heap [] := va_S.rf
  have hl := lv_entry ([.ref (ad 0), .int (iI (a)), .int (iI (b)), .int (iI (d)), .int (iI (f))]) (n := 6) (Nat.le_of_ble_eq_true rfl)
  rw [lg_entry_eq]
  generalize (lg_sl ([.ref (ad 0), .int (iI (a)), .int (iI (b)), .int (iI (d)), .int (iI (f))]) ++ List.replicate (6 - (lg_sl ([.ref (ad 0), .int (iI (a)), .int (iI (b)), .int (iI (d)), .int (iI (f))])).length) Slot.unset).toArray = ls at hl ⊢
  have hl : lv_has ls 6 [(0, .ref (ad 0)), (1, .int (iI (a))), (2, .int (iI (b))), (3, .int (iI (d))), (4, .int (iI (f)))] := hl
  obtain ⟨ht, hg, hb7, hpo⟩ := id hm0
  obtain ⟨g1, g2, g3, g4, g5⟩ := id hg
  refine lv_aload_n hx hb dX2_earliest_0 rfl (lv_at hl 0 rfl) ?_
  refine lv_iload_n hx hb dX2_earliest_1 rfl (lv_at hl 1 rfl) ?_
  refine lv_iload_n hx hb dX2_earliest_2 rfl (lv_at hl 2 rfl) ?_
  refine lv_iload_n hx hb dX2_earliest_3 rfl (lv_at hl 3 rfl) ?_
  refine lv_iload hx hb dX2_earliest_4 (lv_at hl 4 rfl) ?_
  refine zcalli (va_runS (As := [.int (iI (a)), .int (iI (b)), .int (iI (d)), .int (iI (f))]) (rest := [.ref (ad 0)]) ⟨hx, hb, hml, hown, hts⟩ (c_X2_isPlan l D cy A ad _ (a) (b) (d) (f) (by first | decide | (constructor <;> omega)) (by first | decide | (constructor <;> omega)) (by first | decide | (constructor <;> omega)) (by first | decide | (constructor <;> omega))) (va_cwS 4 hts gX2_earliest_X2_isPlan rfl rfl rfl (by decide +kernel) ⟨(Nat.le_of_ble_eq_true rfl), (Nat.le_of_ble_eq_true rfl)⟩) (zPS hE hS) rfl rfl hl.1 rfl (lv_room (Nat.le_of_ble_eq_true rfl)) dX2_earliest_6 ⟨(Nat.le_of_ble_eq_true rfl), (Nat.le_of_ble_eq_true rfl)⟩) hS (fun z_6 H1 locs hz_6 hq hz1 hk1 hS => ?_)
  obtain ⟨hqe, hv_6⟩ := hq
  replace hqe := hqe.symm
  subst hqe
  refine zf_eq (tgt := 16) hx hb dX2_earliest_9 (by decide) (by first | decide | (constructor <;> omega)) (fun c_9 => ?_) (fun c_9 => ?_)
  · refine zi_const hx hb dX2_earliest_16 ?_
    refine zput (C := RX2) (T := TX2) (N := 19) hx hb hts hinX2 tyX2 tyX2_ok nmX2 hown hE hS hw 0 mE_0 rfl 0 (by decide) (hts (.fieldLink RX2 66 "FormworkYardModel" "thrown" "I") (by decide +kernel)) rfl (ty := .int) (by decide +kernel) rfl rfl (Nat.le_of_ble_eq_true rfl) dX2_earliest_17 (fun H locs hw hS => ?_)
    have hw := hw.cong (mU_i 0 (by decide) (1))
    refine lv_aload_n hx hb dX2_earliest_20 rfl (lv_at hl 0 rfl) ?_
    refine zget (C := RX2) (T := TX2) (N := 19) hx hb hts hinX2 hown hE hw 0 mE_0 rfl 0 (by decide) (hts (.fieldLink RX2 66 "FormworkYardModel" "thrown" "I") (by decide +kernel)) rfl dX2_earliest_21 ?_
    refine zi_top (fun v_21 hv_21 => ?_)
    simp [va_up] at hv_21
    subst hv_21
    refine zf_le (tgt := 29) hx hb dX2_earliest_24 (by decide) (by first | decide | (constructor <;> omega)) (fun c_24 => ?_) (fun c_24 => ?_)
    · exfalso; omega
    · refine zi_const hx hb dX2_earliest_27 ?_
      refine ziret hx hb hr hlocks hS (Nat.le_of_ble_eq_true rfl) (Nat.le_of_ble_eq_true rfl) (by first | decide | (constructor <;> omega)) ?_ dX2_earliest_28
      refine ⟨_, _, hw, sU_r, by unfold plOK; (repeat' split) <;> omega, fun hc0 => by omega⟩
  · refine zi_const hx hb dX2_earliest_12 ?_
    refine lv_goto (tgt := 17) hx hb dX2_earliest_13 (by decide) ?_
    refine zput (C := RX2) (T := TX2) (N := 19) hx hb hts hinX2 tyX2 tyX2_ok nmX2 hown hE hS hw 0 mE_0 rfl 0 (by decide) (hts (.fieldLink RX2 66 "FormworkYardModel" "thrown" "I") (by decide +kernel)) rfl (ty := .int) (by decide +kernel) rfl rfl (Nat.le_of_ble_eq_true rfl) dX2_earliest_17 (fun H locs hw hS => ?_)
    have hw := hw.cong (mU_i 0 (by decide) (0))
    refine lv_aload_n hx hb dX2_earliest_20 rfl (lv_at hl 0 rfl) ?_
    refine zget (C := RX2) (T := TX2) (N := 19) hx hb hts hinX2 hown hE hw 0 mE_0 rfl 0 (by decide) (hts (.fieldLink RX2 66 "FormworkYardModel" "thrown" "I") (by decide +kernel)) rfl dX2_earliest_21 ?_
    refine zi_top (fun v_21 hv_21 => ?_)
    simp [va_up] at hv_21
    subst hv_21
    refine zf_le (tgt := 29) hx hb dX2_earliest_24 (by decide) (by first | decide | (constructor <;> omega)) (fun c_24 => ?_) (fun c_24 => ?_)
    · refine lv_aload_n hx hb dX2_earliest_29 rfl (lv_at hl 0 rfl) ?_
      refine zcallv (va_runV (As := []) (rest := []) ⟨hx, hb, hml, hown, hts⟩ (c_X2_worksAll l D cy A ad (va_up mi 0 (0)) ma _ hw (mOK_0.mpr hm0)) (cwV 0 hts gX2_earliest_X2_worksAll rfl rfl rfl (by decide +kernel) ⟨(Nat.le_of_ble_eq_true rfl), (Nat.le_of_ble_eq_true rfl)⟩) (zPV hE hS hw (ci := 2) (k0 := 0) rfl mE_0) rfl rfl hl.1 rfl (lv_room (Nat.le_of_ble_eq_true rfl)) dX2_earliest_30 ⟨(Nat.le_of_ble_eq_true rfl), (Nat.le_of_ble_eq_true rfl)⟩) hS (fun H1 locs hq hz1 hk1 hS => ?_)
      obtain ⟨ma_w30, hw, haU_30, haV_30⟩ := hq
      obtain ⟨hb7w, hr9w⟩ := zr9 (mOK_0.mpr hm0) haU_30 haV_30
      refine lv_iload_n hx hb dX2_earliest_33 rfl (lv_at hl 1 rfl) ?_
      refine lv_istore (lv' := [(5, .int (iI (a))), (0, .ref (ad 0)), (1, .int (iI (a))), (2, .int (iI (b))), (3, .int (iI (d))), (4, .int (iI (f)))]) hx hb dX2_earliest_34 hl (by decide) rfl (fun ls hl => ?_)
      refine lv_aload_n hx hb dX2_earliest_36 rfl (lv_at hl 1 rfl) ?_
      refine zi_bipush hx hb dX2_earliest_37 (by decide) ?_
      refine lv_iload hx hb dX2_earliest_39 (lv_at hl 0 rfl) ?_
      refine lv_iload_n hx hb dX2_earliest_41 rfl (lv_at hl 3 rfl) ?_
      refine lv_iload_n hx hb dX2_earliest_42 rfl (lv_at hl 4 rfl) ?_
      refine lv_iload hx hb dX2_earliest_43 (lv_at hl 5 rfl) ?_
      refine zcallv (va_runV (As := [.int (iI (10)), .int (iI (a)), .int (iI (b)), .int (iI (d)), .int (iI (f))]) (rest := []) ⟨hx, hb, hml, hown, hts⟩ (c_X2_lays l D cy A ad (va_up mi 0 (0)) ma_w30 _ 10 (a) (b) (d) (f) hw (by omega)) (cwV 5 hts gX2_earliest_X2_lays rfl rfl rfl (by decide +kernel) ⟨(Nat.le_of_ble_eq_true rfl), (Nat.le_of_ble_eq_true rfl)⟩) (zPV hE hS hw (ci := 2) (k0 := 0) rfl mE_0) rfl rfl hl.1 rfl (lv_room (Nat.le_of_ble_eq_true rfl)) dX2_earliest_45 ⟨(Nat.le_of_ble_eq_true rfl), (Nat.le_of_ble_eq_true rfl)⟩) hS (fun H1 locs hq hz1 hk1 hS => ?_)
      obtain ⟨ma_l45, hw, hlay_45⟩ := hq
      obtain ⟨l8, l9, l10, l11, l12, lr⟩ := hlay_45
      have loop_48 : ∀ (n : Nat) (x : Int) (mb : Nat → Nat → Int) (H : Heap) (locs : List Loc) (ls : Array Slot), (901 - x).toNat < n → (a ≤ x ∧ x ≤ 901) → (eU ma_w30 mb) → (mb 8 10 = x) → (mb 9 10 = b) → (mb 10 10 = d) → (mb 11 10 = f) → (mb 12 10 = 0) → (∀ yy, a ≤ yy → yy < x → ¬ fitS mi ma b d f yy) → zW D A ad (mE cy ad (va_up mi 0 (0)) mb) H → va_S A s.heap H locs → lv_has ls 6 [(5, .int (iI (x))), (0, .ref (ad 0)), (1, .int (iI (a))), (2, .int (iI (b))), (3, .int (iI (d))), (4, .int (iI (f)))] → W pg l en (headSpec wsX2_earliest ({ frames := 5, cells := 0, slots := 0, locals := 109 })).room s mt ([.ref (ad 0), .int (iI (a)), .int (iI (b)), .int (iI (d)), .int (iI (f))] : List Value).toArray below meth c H locs 0 0 (MQ below (zQi (fun z H1 => ∃ (c : Int) (mb : Nat → Nat → Int), zW D A ad (mE cy ad (va_up mi 0 c) mb) H1 ∧ sU ma mb ∧ c = (if plOK a b d f then 0 else 1) ∧ (c = 0 → earS mi ma a b d f z)) A) ([.ref (ad 0), .int (iI (a)), .int (iI (b)), .int (iI (d)), .int (iI (f))] : List Value).toArray s 0 0 A) (F0 mt 48 ls []) := by
        intro n
        induction n with
        | zero =>
          intro x mb H locs ls hm hi hU h8 h9 h10 h11 h12 hno
          exfalso; omega
        | succ n ih =>
          intro x mb H locs ls hm hi hU h8 h9 h10 h11 h12 hno hw hS hl
          refine lv_iload hx hb dX2_earliest_48 (lv_at hl 0 rfl) ?_
          refine zi_sipush hx hb dX2_earliest_50 (by decide) ?_
          refine zc_gt (tgt := 81) hx hb dX2_earliest_53 (by decide) (by first | decide | (constructor <;> omega)) (by first | decide | (constructor <;> omega)) (fun c_53 => ?_) (fun c_53 => ?_)
          · refine lv_iload hx hb dX2_earliest_81 (lv_at hl 0 rfl) ?_
            refine zi_sipush hx hb dX2_earliest_83 (by decide) ?_
            refine zc_gt (tgt := 94) hx hb dX2_earliest_86 (by decide) (by first | decide | (constructor <;> omega)) (by first | decide | (constructor <;> omega)) (fun c_86 => ?_) (fun c_86 => ?_)
            · refine zi_const hx hb dX2_earliest_94 ?_
              refine ziret hx hb hr hlocks hS (Nat.le_of_ble_eq_true rfl) (Nat.le_of_ble_eq_true rfl) (by first | decide | (constructor <;> omega)) ?_ dX2_earliest_95
              refine ⟨_, _, hw, sU_t (aU_s haU_30) (eU_s hU), by unfold plOK; (repeat' split) <;> omega, fun _ => ?_⟩
              exact Or.inr ⟨rfl, fun y hy1 hy2 => hno y hy1 (by omega)⟩
            · refine lv_iload hx hb dX2_earliest_89 (lv_at hl 0 rfl) ?_
              refine lv_goto (tgt := 95) hx hb dX2_earliest_91 (by decide) ?_
              refine ziret hx hb hr hlocks hS (Nat.le_of_ble_eq_true rfl) (Nat.le_of_ble_eq_true rfl) (by first | decide | (constructor <;> omega)) ?_ dX2_earliest_95
              refine ⟨_, _, hw, sU_t (aU_s haU_30) (eU_s hU), by unfold plOK; (repeat' split) <;> omega, fun _ => ?_⟩
              exfalso; omega
          · have hpb : pOK mb 10 := ⟨by omega, by omega, by omega, by omega, by omega, fun k hk => by omega⟩
            have hb7b : ∀ j, j < 11 → mb 7 j = 0 ∨ mb 7 j = 1 := by rw [eU_row hU (by omega)]; exact hb7w
            have hr9b : ∀ q, q < 10 → mb 7 q = 1 → zr (mb 15 q) ∧ zr (mb 17 q) ∧ 1 ≤ mb 10 q ∧ mb 10 q ≤ 30 := fun q hq h7 => by rw [eU_row hU (by omega)] at h7; rw [hU 15 q (by omega), hU 17 q (by omega), hU 10 q (by omega)]; exact hr9w q hq h7
            have hfe := fit_e hm0 haU_30 haV_30 hU h8 h9 h10 h11 h12 (by omega)
            refine lv_aload_n hx hb dX2_earliest_56 rfl (lv_at hl 1 rfl) ?_
            refine zcalli (va_runV (As := []) (rest := []) ⟨hx, hb, hml, hown, hts⟩ (c_X2_fits l D cy A ad (va_up mi 0 (0)) mb _ hw (by rw [eU_row hU (by omega), aU_row haU_30 (by omega)]; exact ht) (gOK_0.mpr hg) hpb hb7b hr9b) (cwV 0 hts gX2_earliest_X2_fits rfl rfl rfl (by decide +kernel) ⟨(Nat.le_of_ble_eq_true rfl), (Nat.le_of_ble_eq_true rfl)⟩) (zPV hE hS hw (ci := 2) (k0 := 0) rfl mE_0) rfl rfl hl.1 rfl (lv_room (Nat.le_of_ble_eq_true rfl)) dX2_earliest_57 ⟨(Nat.le_of_ble_eq_true rfl), (Nat.le_of_ble_eq_true rfl)⟩) hS (fun z_57 H1 locs hz_57 hq hz1 hk1 hS => ?_)
            obtain ⟨ma_f57, hw, hfU, hfit⟩ := hq
            have hfS : (z_57 = 1 ∧ fitS mi ma b d f x) ∨ (z_57 = 0 ∧ ¬ fitS mi ma b d f x) := by rw [hfe] at hfit; exact hfit
            refine zf_ne (tgt := 81) hx hb dX2_earliest_60 (by decide) (by first | decide | (constructor <;> omega)) (fun c_60 => ?_) (fun c_60 => ?_)
            · refine lv_iload hx hb dX2_earliest_81 (lv_at hl 0 rfl) ?_
              refine zi_sipush hx hb dX2_earliest_83 (by decide) ?_
              refine zc_gt (tgt := 94) hx hb dX2_earliest_86 (by decide) (by first | decide | (constructor <;> omega)) (by first | decide | (constructor <;> omega)) (fun c_86 => ?_) (fun c_86 => ?_)
              · refine zi_const hx hb dX2_earliest_94 ?_
                refine ziret hx hb hr hlocks hS (Nat.le_of_ble_eq_true rfl) (Nat.le_of_ble_eq_true rfl) (by first | decide | (constructor <;> omega)) ?_ dX2_earliest_95
                refine ⟨_, _, hw, sU_t (aU_s haU_30) (eU_s (eU_t hU (wU_e hfU))), by unfold plOK; (repeat' split) <;> omega, fun _ => ?_⟩
                exfalso; omega
              · refine lv_iload hx hb dX2_earliest_89 (lv_at hl 0 rfl) ?_
                refine lv_goto (tgt := 95) hx hb dX2_earliest_91 (by decide) ?_
                refine ziret hx hb hr hlocks hS (Nat.le_of_ble_eq_true rfl) (Nat.le_of_ble_eq_true rfl) (by first | decide | (constructor <;> omega)) ?_ dX2_earliest_95
                refine ⟨_, _, hw, sU_t (aU_s haU_30) (eU_s (eU_t hU (wU_e hfU))), by unfold plOK; (repeat' split) <;> omega, fun _ => ?_⟩
                exact Or.inl ⟨by omega, by omega, by rcases hfS with hf | hf; exact hf.2; omega, hno⟩
            · refine zi_iinc (lv' := [(5, .int (iI (x + 1))), (0, .ref (ad 0)), (1, .int (iI (a))), (2, .int (iI (b))), (3, .int (iI (d))), (4, .int (iI (f)))]) hx hb dX2_earliest_63 hl (k := 0) rfl (by decide) rfl (fun ls hl => ?_)
              refine lv_aload_n hx hb dX2_earliest_66 rfl (lv_at hl 1 rfl) ?_
              refine zi_bipush hx hb dX2_earliest_67 (by decide) ?_
              refine lv_iload hx hb dX2_earliest_69 (lv_at hl 0 rfl) ?_
              refine lv_iload_n hx hb dX2_earliest_71 rfl (lv_at hl 3 rfl) ?_
              refine lv_iload_n hx hb dX2_earliest_72 rfl (lv_at hl 4 rfl) ?_
              refine lv_iload hx hb dX2_earliest_73 (lv_at hl 5 rfl) ?_
              refine zcallv (va_runV (As := [.int (iI (10)), .int (iI (x + 1)), .int (iI (b)), .int (iI (d)), .int (iI (f))]) (rest := []) ⟨hx, hb, hml, hown, hts⟩ (c_X2_lays l D cy A ad (va_up mi 0 (0)) ma_f57 _ 10 (x + 1) (b) (d) (f) hw (by omega)) (cwV 5 hts gX2_earliest_X2_lays rfl rfl rfl (by decide +kernel) ⟨(Nat.le_of_ble_eq_true rfl), (Nat.le_of_ble_eq_true rfl)⟩) (zPV hE hS hw (ci := 2) (k0 := 0) rfl mE_0) rfl rfl hl.1 rfl (lv_room (Nat.le_of_ble_eq_true rfl)) dX2_earliest_75 ⟨(Nat.le_of_ble_eq_true rfl), (Nat.le_of_ble_eq_true rfl)⟩) hS (fun H1 locs hq hz1 hk1 hS => ?_)
              obtain ⟨ma_l75, hw, hlay_75⟩ := hq
              refine lv_goto (tgt := 48) hx hb dX2_earliest_78 (by decide) ?_
              obtain ⟨k8, k9, k10, k11, k12, kr⟩ := id hlay_75
              exact ih (x + 1) ma_l75 _ _ _ (by omega) (by omega) (eU_t (eU_t hU (wU_e hfU)) (eU_l hlay_75)) (by rw [k8, up_same]) (by rw [k9, up_same]) (by rw [k10, up_same]) (by rw [k11, up_same]) (by rw [k12, up_same]) (fun y hy1 hy2 => by by_cases hyx : y = x; (subst hyx; rcases hfS with hf | hf; omega; exact hf.2); exact hno y hy1 (by omega)) hw hS (lv_sub hl [0, 1, 2, 3, 4, 5] rfl)
      exact loop_48 902 a ma_l45 _ _ _ (by omega) (by omega) (eU_l ⟨l8, l9, l10, l11, l12, lr⟩) (by rw [l8, up_same]) (by rw [l9, up_same]) (by rw [l10, up_same]) (by rw [l11, up_same]) (by rw [l12, up_same]) (fun y hy1 hy2 => absurd hy1 (by omega)) hw hS (lv_sub hl [0, 1, 2, 3, 4, 5] rfl)
    · exfalso; omega

set_option maxHeartbeats 4000000 in
set_option maxRecDepth 100000 in
theorem c_X2_delay (l : Launch) (D : va_G) (cy : Nat → ClassId) (A : Nat → Prop) (ad : Nat → Nat) (mi : Nat → Int) (ma : Nat → Nat → Int) (H0 : Heap) (p a b : Int) (hw : zW D A ad (mE cy ad mi ma) H0) (h1 : zr p) (h2 : zr a) (h3 : zr b) (hm0 : mOK mi ma) : Met l yX2_delay wsX2_delay ({ frames := 2, cells := 0, slots := 0, locals := 43 }) (zPc D cy A [.ref (ad 0), .int (iI (p)), .int (iI (a)), .int (iI (b))] H0) (zQi (fun z H1 => ∃ (c : Int) (mb : Nat → Nat → Int), zW D A ad (mE cy ad (va_up mi 0 c) mb) H1 ∧ c = (if isP ma p then (if (0 ≤ a ∧ a ≤ ma 9 p.toNat - 1) ∧ (1 ≤ b ∧ b ≤ 9) then (if ma 12 p.toNat = 4 then 3 else 0) else 2) else 1) ∧ ((c ≠ 0 ∧ mb = ma) ∨ (c = 0 ∧ z = ma 12 p.toNat + 1 ∧ dlR p.toNat a b ma mb))) A) 0 0 A := by
  refine Met.ofW (cc := cX2_delay) (maxL := 5) (ret := (some .int)) (by decide) rfl ?_
  intro pg en s mt args below meth c s₁ B hml hv
  obtain ⟨rfl, hH, hE⟩ := hv
  subst hH
  have hx := B.exec
  have hb := B.bytes
  have hr := B.returns
  have hts := atoms_spec (ws := wsX2_delay) B.pre
  have hown : s.vm.findClass RX2 = some mt.cls := findClass_of_methodNamed B.named
  have hlocks := B.notSynchronized
  have hinX2 : ∀ w ∈ u_ws RX2 TX2 19, w ∈ wsX2_delay := by decide +kernel
  have hS : va_S A s.heap s.heap [] := va_S.rf
  have hl := lv_entry ([.ref (ad 0), .int (iI (p)), .int (iI (a)), .int (iI (b))]) (n := 5) (Nat.le_of_ble_eq_true rfl)
  rw [lg_entry_eq]
  generalize (lg_sl ([.ref (ad 0), .int (iI (p)), .int (iI (a)), .int (iI (b))]) ++ List.replicate (5 - (lg_sl ([.ref (ad 0), .int (iI (p)), .int (iI (a)), .int (iI (b))])).length) Slot.unset).toArray = ls at hl ⊢
  have hl : lv_has ls 5 [(0, .ref (ad 0)), (1, .int (iI (p))), (2, .int (iI (a))), (3, .int (iI (b)))] := hl
  obtain ⟨ht, hg, hb7, hpo⟩ := id hm0
  refine lv_aload_n hx hb dX2_delay_0 rfl (lv_at hl 0 rfl) ?_
  refine lv_aload_n hx hb dX2_delay_1 rfl (lv_at hl 0 rfl) ?_
  refine lv_iload_n hx hb dX2_delay_2 rfl (lv_at hl 1 rfl) ?_
  refine zcalli (va_runV (As := [.int (iI (p))]) (rest := [.ref (ad 0)]) ⟨hx, hb, hml, hown, hts⟩ (c_X2_isPour l D cy A ad mi ma _ (p) hw (by first | decide | (constructor <;> omega)) hb7) (cwV 1 hts gX2_delay_X2_isPour rfl rfl rfl (by decide +kernel) ⟨(Nat.le_of_ble_eq_true rfl), (Nat.le_of_ble_eq_true rfl)⟩) (zPV hE hS hw (ci := 2) (k0 := 0) rfl mE_0) rfl rfl hl.1 rfl (lv_room (Nat.le_of_ble_eq_true rfl)) dX2_delay_3 ⟨(Nat.le_of_ble_eq_true rfl), (Nat.le_of_ble_eq_true rfl)⟩) hS (fun z_3 H1 locs hz_3 hq hz1 hk1 hS => ?_)
  obtain ⟨hqe, hv_3⟩ := hq
  replace hqe := hqe.symm
  subst hqe
  refine zf_ne (tgt := 13) hx hb dX2_delay_6 (by decide) (by first | decide | (constructor <;> omega)) (fun c_6 => ?_) (fun c_6 => ?_)
  · obtain ⟨k, hkp_k⟩ : ∃ k : Nat, p = k := ⟨(p).toNat, by omega⟩
    rw [hkp_k] at hl
    have hkt_k : (p).toNat = k := by omega
    rw [hkt_k] at hv_3
    have h71 : ma 7 k = 1 := by omega
    have hpk := hpo k (by omega) h71
    obtain ⟨q1, q2, q3, q4, q5, q6⟩ := id hpk
    refine lv_iload_n hx hb dX2_delay_13 rfl (lv_at hl 2 rfl) ?_
    refine zi_const hx hb dX2_delay_14 ?_
    refine lv_aload_n hx hb dX2_delay_15 rfl (lv_at hl 0 rfl) ?_
    refine zget (C := RX2) (T := TX2) (N := 19) hx hb hts hinX2 hown hE hw 0 mE_0 rfl 9 (by decide) (hts (.fieldLink RX2 36 "FormworkYardModel" "volumes" "[I") (by decide +kernel)) rfl dX2_delay_16 ?_
    refine lv_iload_n hx hb dX2_delay_19 rfl (lv_at hl 1 rfl) ?_
    refine ziald hx hb hE hw 9 (mE_a 9 (by decide) rfl) k rfl (by omega) (by omega) dX2_delay_20 ?_
    refine zi_top (fun v_20 hv_20 => ?_)
    refine zi_const hx hb dX2_delay_21 ?_
    refine zi_sub hx hb dX2_delay_22 ?_
    refine zcalli (va_runS (As := [.int (iI (a)), .int (iI (0)), .int (iI (v_20 - 1))]) (rest := [.ref (ad 0)]) ⟨hx, hb, hml, hown, hts⟩ (c_X2_in l D cy A ad _ (a) (0) (v_20 - 1) (by first | decide | (constructor <;> omega)) (by first | decide | (constructor <;> omega)) (by first | decide | (constructor <;> omega))) (va_cwS 3 hts gX2_delay_X2_in rfl rfl rfl (by decide +kernel) ⟨(Nat.le_of_ble_eq_true rfl), (Nat.le_of_ble_eq_true rfl)⟩) (zPS hE hS) rfl rfl hl.1 rfl (lv_room (Nat.le_of_ble_eq_true rfl)) dX2_delay_23 ⟨(Nat.le_of_ble_eq_true rfl), (Nat.le_of_ble_eq_true rfl)⟩) hS (fun z_23 H1 locs hz_23 hq hz1 hk1 hS => ?_)
    obtain ⟨hqe, hv_23⟩ := hq
    replace hqe := hqe.symm
    subst hqe
    refine zf_eq (tgt := 39) hx hb dX2_delay_26 (by decide) (by first | decide | (constructor <;> omega)) (fun c_26 => ?_) (fun c_26 => ?_)
    · refine zi_const hx hb dX2_delay_39 ?_
      refine lv_goto (tgt := 58) hx hb dX2_delay_40 (by decide) ?_
      refine zput (C := RX2) (T := TX2) (N := 19) hx hb hts hinX2 tyX2 tyX2_ok nmX2 hown hE hS hw 0 mE_0 rfl 0 (by decide) (hts (.fieldLink RX2 66 "FormworkYardModel" "thrown" "I") (by decide +kernel)) rfl (ty := .int) (by decide +kernel) rfl rfl (Nat.le_of_ble_eq_true rfl) dX2_delay_58 (fun H locs hw hS => ?_)
      have hw := hw.cong (mU_i 0 (by decide) (2))
      refine lv_aload_n hx hb dX2_delay_61 rfl (lv_at hl 0 rfl) ?_
      refine zget (C := RX2) (T := TX2) (N := 19) hx hb hts hinX2 hown hE hw 0 mE_0 rfl 0 (by decide) (hts (.fieldLink RX2 66 "FormworkYardModel" "thrown" "I") (by decide +kernel)) rfl dX2_delay_62 ?_
      refine zi_top (fun v_62 hv_62 => ?_)
      simp [va_up] at hv_62
      subst hv_62
      refine zf_le (tgt := 70) hx hb dX2_delay_65 (by decide) (by first | decide | (constructor <;> omega)) (fun c_65 => ?_) (fun c_65 => ?_)
      · exfalso; omega
      · refine zi_const hx hb dX2_delay_68 ?_
        refine ziret hx hb hr hlocks hS (Nat.le_of_ble_eq_true rfl) (Nat.le_of_ble_eq_true rfl) (by first | decide | (constructor <;> omega)) ?_ dX2_delay_69
        refine ⟨_, _, hw, by rw [if_pos (by unfold isP; rw [hkt_k]; omega), hkt_k]; (repeat' split) <;> omega, Or.inl ⟨by decide, rfl⟩⟩
    · refine lv_iload_n hx hb dX2_delay_29 rfl (lv_at hl 3 rfl) ?_
      refine zi_const hx hb dX2_delay_30 ?_
      refine zi_bipush hx hb dX2_delay_31 (by decide) ?_
      refine zcalli (va_runS (As := [.int (iI (b)), .int (iI (1)), .int (iI (9))]) (rest := [.ref (ad 0)]) ⟨hx, hb, hml, hown, hts⟩ (c_X2_in l D cy A ad _ (b) (1) (9) (by first | decide | (constructor <;> omega)) (by first | decide | (constructor <;> omega)) (by first | decide | (constructor <;> omega))) (va_cwS 3 hts gX2_delay_X2_in rfl rfl rfl (by decide +kernel) ⟨(Nat.le_of_ble_eq_true rfl), (Nat.le_of_ble_eq_true rfl)⟩) (zPS hE hS) rfl rfl hl.1 rfl (lv_room (Nat.le_of_ble_eq_true rfl)) dX2_delay_33 ⟨(Nat.le_of_ble_eq_true rfl), (Nat.le_of_ble_eq_true rfl)⟩) hS (fun z_33 H1 locs hz_33 hq hz1 hk1 hS => ?_)
      obtain ⟨hqe, hv_33⟩ := hq
      replace hqe := hqe.symm
      subst hqe
      refine zf_ne (tgt := 43) hx hb dX2_delay_36 (by decide) (by first | decide | (constructor <;> omega)) (fun c_36 => ?_) (fun c_36 => ?_)
      · refine lv_aload_n hx hb dX2_delay_43 rfl (lv_at hl 0 rfl) ?_
        refine zget (C := RX2) (T := TX2) (N := 19) hx hb hts hinX2 hown hE hw 0 mE_0 rfl 12 (by decide) (hts (.fieldLink RX2 45 "FormworkYardModel" "breakMany" "[I") (by decide +kernel)) rfl dX2_delay_44 ?_
        refine lv_iload_n hx hb dX2_delay_47 rfl (lv_at hl 1 rfl) ?_
        refine ziald hx hb hE hw 12 (mE_a 12 (by decide) rfl) k rfl (by omega) (by omega) dX2_delay_48 ?_
        refine zi_top (fun v_48 hv_48 => ?_)
        refine zi_const hx hb dX2_delay_49 ?_
        refine zc_ne (tgt := 57) hx hb dX2_delay_50 (by decide) (by first | decide | (constructor <;> omega)) (by first | decide | (constructor <;> omega)) (fun c_50 => ?_) (fun c_50 => ?_)
        · refine zi_const hx hb dX2_delay_57 ?_
          refine zput (C := RX2) (T := TX2) (N := 19) hx hb hts hinX2 tyX2 tyX2_ok nmX2 hown hE hS hw 0 mE_0 rfl 0 (by decide) (hts (.fieldLink RX2 66 "FormworkYardModel" "thrown" "I") (by decide +kernel)) rfl (ty := .int) (by decide +kernel) rfl rfl (Nat.le_of_ble_eq_true rfl) dX2_delay_58 (fun H locs hw hS => ?_)
          have hw := hw.cong (mU_i 0 (by decide) (0))
          refine lv_aload_n hx hb dX2_delay_61 rfl (lv_at hl 0 rfl) ?_
          refine zget (C := RX2) (T := TX2) (N := 19) hx hb hts hinX2 hown hE hw 0 mE_0 rfl 0 (by decide) (hts (.fieldLink RX2 66 "FormworkYardModel" "thrown" "I") (by decide +kernel)) rfl dX2_delay_62 ?_
          refine zi_top (fun v_62 hv_62 => ?_)
          simp [va_up] at hv_62
          subst hv_62
          refine zf_le (tgt := 70) hx hb dX2_delay_65 (by decide) (by first | decide | (constructor <;> omega)) (fun c_65 => ?_) (fun c_65 => ?_)
          · refine lv_aload_n hx hb dX2_delay_70 rfl (lv_at hl 0 rfl) ?_
            refine zget (C := RX2) (T := TX2) (N := 19) hx hb hts hinX2 hown hE hw 0 mE_0 rfl 12 (by decide) (hts (.fieldLink RX2 45 "FormworkYardModel" "breakMany" "[I") (by decide +kernel)) rfl dX2_delay_71 ?_
            refine lv_iload_n hx hb dX2_delay_74 rfl (lv_at hl 1 rfl) ?_
            refine ziald hx hb hE hw 12 (mE_a 12 (by decide) rfl) k rfl (by omega) (by omega) dX2_delay_75 ?_
            refine zi_top (fun v_75 hv_75 => ?_)
            obtain ⟨i0, hi0⟩ : ∃ i : Nat, v_75 = i := ⟨v_75.toNat, by omega⟩
            subst hi0
            refine lv_istore (lv' := [(4, .int (iI ((i0 : Int)))), (0, .ref (ad 0)), (1, .int (iI ((k : Int)))), (2, .int (iI (a))), (3, .int (iI (b)))]) hx hb dX2_delay_76 hl (by decide) rfl (fun ls hl => ?_)
            have loop_78 : ∀ (n : Nat) (i : Nat) (mb : Nat → Nat → Int) (H : Heap) (locs : List Loc) (ls : Array Slot), i < n → (i ≤ i0) → (ipos (fun j => ma 13 (4 * k + j)) a i = ipos (fun j => ma 13 (4 * k + j)) a i0) → (dlI (fun j => ma 13 (4 * k + j)) (fun j => mb 13 (4 * k + j)) i i0) → (dlI (fun j => ma 14 (4 * k + j)) (fun j => mb 14 (4 * k + j)) i i0) → (∀ j, (j < 4 * k ∨ 4 * k + 4 ≤ j) → mb 13 j = ma 13 j ∧ mb 14 j = ma 14 j) → (∀ r, r ≠ 13 → r ≠ 14 → mb r = ma r) → zW D A ad (mE cy ad (va_up mi 0 (0)) mb) H → va_S A s.heap H locs → lv_has ls 5 [(4, .int (iI ((i : Int)))), (0, .ref (ad 0)), (1, .int (iI ((k : Int)))), (2, .int (iI (a))), (3, .int (iI (b)))] → W pg l en (headSpec wsX2_delay ({ frames := 2, cells := 0, slots := 0, locals := 43 })).room s mt ([.ref (ad 0), .int (iI (p)), .int (iI (a)), .int (iI (b))] : List Value).toArray below meth c H locs 0 0 (MQ below (zQi (fun z H1 => ∃ (c : Int) (mb : Nat → Nat → Int), zW D A ad (mE cy ad (va_up mi 0 c) mb) H1 ∧ c = (if isP ma p then (if (0 ≤ a ∧ a ≤ ma 9 p.toNat - 1) ∧ (1 ≤ b ∧ b ≤ 9) then (if ma 12 p.toNat = 4 then 3 else 0) else 2) else 1) ∧ ((c ≠ 0 ∧ mb = ma) ∨ (c = 0 ∧ z = ma 12 p.toNat + 1 ∧ dlR p.toNat a b ma mb))) A) ([.ref (ad 0), .int (iI (p)), .int (iI (a)), .int (iI (b))] : List Value).toArray s 0 0 A) (F0 mt 78 ls []) := by
              intro n
              induction n with
              | zero =>
                intro i mb H locs ls hm hi hip hd13 hd14 ho hr2
                exfalso; omega
              | succ n ih =>
                intro i mb H locs ls hm hi hip hd13 hd14 ho hr2 hw hS hl
                refine lv_iload hx hb dX2_delay_78 (lv_at hl 0 rfl) ?_
                refine zf_le (tgt := 154) hx hb dX2_delay_80 (by decide) (by first | decide | (constructor <;> omega)) (fun c_80 => ?_) (fun c_80 => ?_)
                · have hpos : ipos (fun j => ma 13 (4 * k + j)) a i0 = i := by rw [← hip]; rw [show i = 0 by omega]; rfl
                  refine lv_aload_n hx hb dX2_delay_154 rfl (lv_at hl 1 rfl) ?_
                  refine zget (C := RX2) (T := TX2) (N := 19) hx hb hts hinX2 hown hE hw 0 mE_0 rfl 13 (by decide) (hts (.fieldLink RX2 48 "FormworkYardModel" "parts" "[I") (by decide +kernel)) rfl dX2_delay_155 ?_
                  refine zi_const hx hb dX2_delay_158 ?_
                  refine lv_iload_n hx hb dX2_delay_159 rfl (lv_at hl 2 rfl) ?_
                  refine zi_mul hx hb dX2_delay_160 ?_
                  refine lv_iload hx hb dX2_delay_161 (lv_at hl 0 rfl) ?_
                  refine zi_add hx hb dX2_delay_163 ?_
                  refine lv_iload_n hx hb dX2_delay_164 rfl (lv_at hl 3 rfl) ?_
                  refine ziast hx hb hE hS hw 13 (mE_a 13 (by decide) rfl) (4 * k + i) (by omega) (by omega) (by omega) dX2_delay_165 (fun H locs hw hS => ?_)
                  have hw := hw.cong (mU_a 13 (by decide) rfl ((4 * k + i)) (a))
                  obtain ⟨ma_1, hma_1⟩ : ∃ z : Nat → Nat → Int, z = (va_up mb 13 (va_up (mb 13) ((4 * k + i)) (a))) := ⟨_, rfl⟩
                  rw [← hma_1] at hw
                  refine lv_aload_n hx hb dX2_delay_166 rfl (lv_at hl 1 rfl) ?_
                  refine zget (C := RX2) (T := TX2) (N := 19) hx hb hts hinX2 hown hE hw 0 mE_0 rfl 14 (by decide) (hts (.fieldLink RX2 51 "FormworkYardModel" "lasts" "[I") (by decide +kernel)) rfl dX2_delay_167 ?_
                  refine zi_const hx hb dX2_delay_170 ?_
                  refine lv_iload_n hx hb dX2_delay_171 rfl (lv_at hl 2 rfl) ?_
                  refine zi_mul hx hb dX2_delay_172 ?_
                  refine lv_iload hx hb dX2_delay_173 (lv_at hl 0 rfl) ?_
                  refine zi_add hx hb dX2_delay_175 ?_
                  refine lv_iload_n hx hb dX2_delay_176 rfl (lv_at hl 4 rfl) ?_
                  refine ziast hx hb hE hS hw 14 (mE_a 14 (by decide) rfl) (4 * k + i) (by omega) (by omega) (by omega) dX2_delay_177 (fun H locs hw hS => ?_)
                  have hw := hw.cong (mU_a 14 (by decide) rfl ((4 * k + i)) (b))
                  obtain ⟨ma_2, hma_2⟩ : ∃ z : Nat → Nat → Int, z = (va_up ma_1 14 (va_up (ma_1 14) ((4 * k + i)) (b))) := ⟨_, rfl⟩
                  rw [← hma_2] at hw
                  refine lv_aload_n hx hb dX2_delay_178 rfl (lv_at hl 1 rfl) ?_
                  refine zget (C := RX2) (T := TX2) (N := 19) hx hb hts hinX2 hown hE hw 0 mE_0 rfl 12 (by decide) (hts (.fieldLink RX2 45 "FormworkYardModel" "breakMany" "[I") (by decide +kernel)) rfl dX2_delay_179 ?_
                  refine lv_iload_n hx hb dX2_delay_182 rfl (lv_at hl 2 rfl) ?_
                  refine lv_dup2_11 hx hb dX2_delay_183 rfl rfl ?_
                  refine ziald hx hb hE hw 12 (mE_a 12 (by decide) rfl) k rfl (by omega) (by omega) dX2_delay_184 ?_
                  refine zi_top (fun v_184 hv_184 => ?_)
                  refine zi_const hx hb dX2_delay_185 ?_
                  refine zi_add hx hb dX2_delay_186 ?_
                  refine ziast hx hb hE hS hw 12 (mE_a 12 (by decide) rfl) k rfl (by omega) (by omega) dX2_delay_187 (fun H locs hw hS => ?_)
                  have hw := hw.cong (mU_a 12 (by decide) rfl (k) (v_184 + 1))
                  obtain ⟨ma_3, hma_3⟩ : ∃ z : Nat → Nat → Int, z = (va_up ma_2 12 (va_up (ma_2 12) (k) (v_184 + 1))) := ⟨_, rfl⟩
                  rw [← hma_3] at hw
                  refine lv_aload_n hx hb dX2_delay_188 rfl (lv_at hl 1 rfl) ?_
                  refine zget (C := RX2) (T := TX2) (N := 19) hx hb hts hinX2 hown hE hw 0 mE_0 rfl 12 (by decide) (hts (.fieldLink RX2 45 "FormworkYardModel" "breakMany" "[I") (by decide +kernel)) rfl dX2_delay_189 ?_
                  refine lv_iload_n hx hb dX2_delay_192 rfl (lv_at hl 2 rfl) ?_
                  refine ziald hx hb hE hw 12 (mE_a 12 (by decide) rfl) k rfl (by omega) (by omega) dX2_delay_193 ?_
                  refine zi_top (fun v_193 hv_193 => ?_)
                  have hA := rU_s (k := 13) (p := 4 * k + i) rU_r hma_1
                  have hB := rU_s (k := 14) (p := 4 * k + i) rU_r hma_2
                  have hC := rU_s (k := 12) (p := k) rU_r hma_3
                  have n13 : (fun j => ma_3 13 (4 * k + j)) = va_up (fun j => mb 13 (4 * k + j)) i a := by rw [rU_row hC.1 (by decide), rU_row hB.1 (by decide), hma_1, up_same]; exact sh_up _ _ _ _
                  have n14 : (fun j => ma_3 14 (4 * k + j)) = va_up (fun j => mb 14 (4 * k + j)) i b := by rw [rU_row hC.1 (by decide), hma_2, up_same, rU_row hA.1 (by decide)]; exact sh_up _ _ _ _
                  have hb12 : ma_2 12 = ma 12 := by rw [rU_row hB.1 (by decide), rU_row hA.1 (by decide)]; exact hr2 12 (by decide) (by decide)
                  have hv184 : v_184 = ma 12 k := by rw [hv_184, hb12]
                  have hz : v_193 = ma 12 k + 1 := by rw [hv_193, hC.2, hv184]
                  refine ziret hx hb hr hlocks hS (Nat.le_of_ble_eq_true rfl) (Nat.le_of_ble_eq_true rfl) (by first | decide | (constructor <;> omega)) ?_ dX2_delay_194
                  have hn0 : (ma 12 k).toNat = i0 := by omega
                  have e13 := dlI_e hd13 a hi
                  have e14 := dlI_e hd14 b hi
                  have hdl : dlR k a b ma ma_3 := by
                    refine ⟨?_, fun j hj => ⟨?_, ?_⟩, fun j hj => ?_, fun r hr3 => ?_⟩
                    · rw [hma_3, up_same, hb12, hv184]
                    · have h : ma_3 13 (4 * k + j) = va_up (fun j => mb 13 (4 * k + j)) i a j := congrFun n13 j; rw [h, hn0, hpos]; exact e13.1 j (by omega)
                    · have h : ma_3 14 (4 * k + j) = va_up (fun j => mb 14 (4 * k + j)) i b j := congrFun n14 j; rw [h, hn0, hpos]; exact e14.1 j (by omega)
                    · rw [hC.1 13 j (by omega), hB.1 13 j (by omega), hA.1 13 j (by omega), hC.1 14 j (by omega), hB.1 14 j (by omega), hA.1 14 j (by omega)]; exact ho j hj
                    · rw [rU_row hC.1 (by omega), rU_row hB.1 (by omega), rU_row hA.1 (by omega)]; exact hr2 r (by omega) (by omega)
                  refine ⟨_, _, hw, by rw [if_pos (by unfold isP; rw [hkt_k]; omega), hkt_k]; (repeat' split) <;> omega, Or.inr ⟨rfl, by rw [hkt_k]; exact hz, by rw [hkt_k]; exact hdl⟩⟩
                · obtain ⟨u, hu⟩ : ∃ u, i = u + 1 := ⟨i - 1, by omega⟩
                  refine lv_aload_n hx hb dX2_delay_83 rfl (lv_at hl 1 rfl) ?_
                  refine zget (C := RX2) (T := TX2) (N := 19) hx hb hts hinX2 hown hE hw 0 mE_0 rfl 13 (by decide) (hts (.fieldLink RX2 48 "FormworkYardModel" "parts" "[I") (by decide +kernel)) rfl dX2_delay_84 ?_
                  refine zi_const hx hb dX2_delay_87 ?_
                  refine lv_iload_n hx hb dX2_delay_88 rfl (lv_at hl 2 rfl) ?_
                  refine zi_mul hx hb dX2_delay_89 ?_
                  refine lv_iload hx hb dX2_delay_90 (lv_at hl 0 rfl) ?_
                  refine zi_add hx hb dX2_delay_92 ?_
                  refine zi_const hx hb dX2_delay_93 ?_
                  refine zi_sub hx hb dX2_delay_94 ?_
                  refine ziald hx hb hE hw 13 (mE_a 13 (by decide) rfl) (4 * k + u) (by omega) (by omega) (by omega) dX2_delay_95 ?_
                  refine zi_top (fun v_95 hv_95 => ?_)
                  have hfu0 : mb 13 (4 * k + u) = ma 13 (4 * k + u) := hd13.1 u (by omega)
                  have hq6u := q6 u (by omega)
                  refine lv_iload_n hx hb dX2_delay_96 rfl (lv_at hl 3 rfl) ?_
                  refine zc_le (tgt := 154) hx hb dX2_delay_97 (by decide) (by first | decide | (constructor <;> omega)) (by first | decide | (constructor <;> omega)) (fun c_97 => ?_) (fun c_97 => ?_)
                  · have hpos : ipos (fun j => ma 13 (4 * k + j)) a i0 = i := by rw [← hip]; rw [hu]; simp only [ipos]; rw [if_neg (by omega)]
                    refine lv_aload_n hx hb dX2_delay_154 rfl (lv_at hl 1 rfl) ?_
                    refine zget (C := RX2) (T := TX2) (N := 19) hx hb hts hinX2 hown hE hw 0 mE_0 rfl 13 (by decide) (hts (.fieldLink RX2 48 "FormworkYardModel" "parts" "[I") (by decide +kernel)) rfl dX2_delay_155 ?_
                    refine zi_const hx hb dX2_delay_158 ?_
                    refine lv_iload_n hx hb dX2_delay_159 rfl (lv_at hl 2 rfl) ?_
                    refine zi_mul hx hb dX2_delay_160 ?_
                    refine lv_iload hx hb dX2_delay_161 (lv_at hl 0 rfl) ?_
                    refine zi_add hx hb dX2_delay_163 ?_
                    refine lv_iload_n hx hb dX2_delay_164 rfl (lv_at hl 3 rfl) ?_
                    refine ziast hx hb hE hS hw 13 (mE_a 13 (by decide) rfl) (4 * k + i) (by omega) (by omega) (by omega) dX2_delay_165 (fun H locs hw hS => ?_)
                    have hw := hw.cong (mU_a 13 (by decide) rfl ((4 * k + i)) (a))
                    obtain ⟨ma_4, hma_4⟩ : ∃ z : Nat → Nat → Int, z = (va_up mb 13 (va_up (mb 13) ((4 * k + i)) (a))) := ⟨_, rfl⟩
                    rw [← hma_4] at hw
                    refine lv_aload_n hx hb dX2_delay_166 rfl (lv_at hl 1 rfl) ?_
                    refine zget (C := RX2) (T := TX2) (N := 19) hx hb hts hinX2 hown hE hw 0 mE_0 rfl 14 (by decide) (hts (.fieldLink RX2 51 "FormworkYardModel" "lasts" "[I") (by decide +kernel)) rfl dX2_delay_167 ?_
                    refine zi_const hx hb dX2_delay_170 ?_
                    refine lv_iload_n hx hb dX2_delay_171 rfl (lv_at hl 2 rfl) ?_
                    refine zi_mul hx hb dX2_delay_172 ?_
                    refine lv_iload hx hb dX2_delay_173 (lv_at hl 0 rfl) ?_
                    refine zi_add hx hb dX2_delay_175 ?_
                    refine lv_iload_n hx hb dX2_delay_176 rfl (lv_at hl 4 rfl) ?_
                    refine ziast hx hb hE hS hw 14 (mE_a 14 (by decide) rfl) (4 * k + i) (by omega) (by omega) (by omega) dX2_delay_177 (fun H locs hw hS => ?_)
                    have hw := hw.cong (mU_a 14 (by decide) rfl ((4 * k + i)) (b))
                    obtain ⟨ma_5, hma_5⟩ : ∃ z : Nat → Nat → Int, z = (va_up ma_4 14 (va_up (ma_4 14) ((4 * k + i)) (b))) := ⟨_, rfl⟩
                    rw [← hma_5] at hw
                    refine lv_aload_n hx hb dX2_delay_178 rfl (lv_at hl 1 rfl) ?_
                    refine zget (C := RX2) (T := TX2) (N := 19) hx hb hts hinX2 hown hE hw 0 mE_0 rfl 12 (by decide) (hts (.fieldLink RX2 45 "FormworkYardModel" "breakMany" "[I") (by decide +kernel)) rfl dX2_delay_179 ?_
                    refine lv_iload_n hx hb dX2_delay_182 rfl (lv_at hl 2 rfl) ?_
                    refine lv_dup2_11 hx hb dX2_delay_183 rfl rfl ?_
                    refine ziald hx hb hE hw 12 (mE_a 12 (by decide) rfl) k rfl (by omega) (by omega) dX2_delay_184 ?_
                    refine zi_top (fun v_184 hv_184 => ?_)
                    refine zi_const hx hb dX2_delay_185 ?_
                    refine zi_add hx hb dX2_delay_186 ?_
                    refine ziast hx hb hE hS hw 12 (mE_a 12 (by decide) rfl) k rfl (by omega) (by omega) dX2_delay_187 (fun H locs hw hS => ?_)
                    have hw := hw.cong (mU_a 12 (by decide) rfl (k) (v_184 + 1))
                    obtain ⟨ma_6, hma_6⟩ : ∃ z : Nat → Nat → Int, z = (va_up ma_5 12 (va_up (ma_5 12) (k) (v_184 + 1))) := ⟨_, rfl⟩
                    rw [← hma_6] at hw
                    refine lv_aload_n hx hb dX2_delay_188 rfl (lv_at hl 1 rfl) ?_
                    refine zget (C := RX2) (T := TX2) (N := 19) hx hb hts hinX2 hown hE hw 0 mE_0 rfl 12 (by decide) (hts (.fieldLink RX2 45 "FormworkYardModel" "breakMany" "[I") (by decide +kernel)) rfl dX2_delay_189 ?_
                    refine lv_iload_n hx hb dX2_delay_192 rfl (lv_at hl 2 rfl) ?_
                    refine ziald hx hb hE hw 12 (mE_a 12 (by decide) rfl) k rfl (by omega) (by omega) dX2_delay_193 ?_
                    refine zi_top (fun v_193 hv_193 => ?_)
                    have hA := rU_s (k := 13) (p := 4 * k + i) rU_r hma_4
                    have hB := rU_s (k := 14) (p := 4 * k + i) rU_r hma_5
                    have hC := rU_s (k := 12) (p := k) rU_r hma_6
                    have n13 : (fun j => ma_6 13 (4 * k + j)) = va_up (fun j => mb 13 (4 * k + j)) i a := by rw [rU_row hC.1 (by decide), rU_row hB.1 (by decide), hma_4, up_same]; exact sh_up _ _ _ _
                    have n14 : (fun j => ma_6 14 (4 * k + j)) = va_up (fun j => mb 14 (4 * k + j)) i b := by rw [rU_row hC.1 (by decide), hma_5, up_same, rU_row hA.1 (by decide)]; exact sh_up _ _ _ _
                    have hb12 : ma_5 12 = ma 12 := by rw [rU_row hB.1 (by decide), rU_row hA.1 (by decide)]; exact hr2 12 (by decide) (by decide)
                    have hv184 : v_184 = ma 12 k := by rw [hv_184, hb12]
                    have hz : v_193 = ma 12 k + 1 := by rw [hv_193, hC.2, hv184]
                    refine ziret hx hb hr hlocks hS (Nat.le_of_ble_eq_true rfl) (Nat.le_of_ble_eq_true rfl) (by first | decide | (constructor <;> omega)) ?_ dX2_delay_194
                    have hn0 : (ma 12 k).toNat = i0 := by omega
                    have e13 := dlI_e hd13 a hi
                    have e14 := dlI_e hd14 b hi
                    have hdl : dlR k a b ma ma_6 := by
                      refine ⟨?_, fun j hj => ⟨?_, ?_⟩, fun j hj => ?_, fun r hr3 => ?_⟩
                      · rw [hma_6, up_same, hb12, hv184]
                      · have h : ma_6 13 (4 * k + j) = va_up (fun j => mb 13 (4 * k + j)) i a j := congrFun n13 j; rw [h, hn0, hpos]; exact e13.1 j (by omega)
                      · have h : ma_6 14 (4 * k + j) = va_up (fun j => mb 14 (4 * k + j)) i b j := congrFun n14 j; rw [h, hn0, hpos]; exact e14.1 j (by omega)
                      · rw [hC.1 13 j (by omega), hB.1 13 j (by omega), hA.1 13 j (by omega), hC.1 14 j (by omega), hB.1 14 j (by omega), hA.1 14 j (by omega)]; exact ho j hj
                      · rw [rU_row hC.1 (by omega), rU_row hB.1 (by omega), rU_row hA.1 (by omega)]; exact hr2 r (by omega) (by omega)
                    refine ⟨_, _, hw, by rw [if_pos (by unfold isP; rw [hkt_k]; omega), hkt_k]; (repeat' split) <;> omega, Or.inr ⟨rfl, by rw [hkt_k]; exact hz, by rw [hkt_k]; exact hdl⟩⟩
                  · refine lv_aload_n hx hb dX2_delay_100 rfl (lv_at hl 1 rfl) ?_
                    refine zget (C := RX2) (T := TX2) (N := 19) hx hb hts hinX2 hown hE hw 0 mE_0 rfl 13 (by decide) (hts (.fieldLink RX2 48 "FormworkYardModel" "parts" "[I") (by decide +kernel)) rfl dX2_delay_101 ?_
                    refine zi_const hx hb dX2_delay_104 ?_
                    refine lv_iload_n hx hb dX2_delay_105 rfl (lv_at hl 2 rfl) ?_
                    refine zi_mul hx hb dX2_delay_106 ?_
                    refine lv_iload hx hb dX2_delay_107 (lv_at hl 0 rfl) ?_
                    refine zi_add hx hb dX2_delay_109 ?_
                    refine lv_aload_n hx hb dX2_delay_110 rfl (lv_at hl 1 rfl) ?_
                    refine zget (C := RX2) (T := TX2) (N := 19) hx hb hts hinX2 hown hE hw 0 mE_0 rfl 13 (by decide) (hts (.fieldLink RX2 48 "FormworkYardModel" "parts" "[I") (by decide +kernel)) rfl dX2_delay_111 ?_
                    refine zi_const hx hb dX2_delay_114 ?_
                    refine lv_iload_n hx hb dX2_delay_115 rfl (lv_at hl 2 rfl) ?_
                    refine zi_mul hx hb dX2_delay_116 ?_
                    refine lv_iload hx hb dX2_delay_117 (lv_at hl 0 rfl) ?_
                    refine zi_add hx hb dX2_delay_119 ?_
                    refine zi_const hx hb dX2_delay_120 ?_
                    refine zi_sub hx hb dX2_delay_121 ?_
                    refine ziald hx hb hE hw 13 (mE_a 13 (by decide) rfl) (4 * k + u) (by omega) (by omega) (by omega) dX2_delay_122 ?_
                    refine zi_top (fun v_122 hv_122 => ?_)
                    refine ziast hx hb hE hS hw 13 (mE_a 13 (by decide) rfl) (4 * k + (u + 1)) (by omega) (by omega) (by omega) dX2_delay_123 (fun H locs hw hS => ?_)
                    have hw := hw.cong (mU_a 13 (by decide) rfl ((4 * k + (u + 1))) (v_122))
                    obtain ⟨ma_7, hma_7⟩ : ∃ z : Nat → Nat → Int, z = (va_up mb 13 (va_up (mb 13) ((4 * k + (u + 1))) (v_122))) := ⟨_, rfl⟩
                    rw [← hma_7] at hw
                    refine lv_aload_n hx hb dX2_delay_124 rfl (lv_at hl 1 rfl) ?_
                    refine zget (C := RX2) (T := TX2) (N := 19) hx hb hts hinX2 hown hE hw 0 mE_0 rfl 14 (by decide) (hts (.fieldLink RX2 51 "FormworkYardModel" "lasts" "[I") (by decide +kernel)) rfl dX2_delay_125 ?_
                    refine zi_const hx hb dX2_delay_128 ?_
                    refine lv_iload_n hx hb dX2_delay_129 rfl (lv_at hl 2 rfl) ?_
                    refine zi_mul hx hb dX2_delay_130 ?_
                    refine lv_iload hx hb dX2_delay_131 (lv_at hl 0 rfl) ?_
                    refine zi_add hx hb dX2_delay_133 ?_
                    refine lv_aload_n hx hb dX2_delay_134 rfl (lv_at hl 1 rfl) ?_
                    refine zget (C := RX2) (T := TX2) (N := 19) hx hb hts hinX2 hown hE hw 0 mE_0 rfl 14 (by decide) (hts (.fieldLink RX2 51 "FormworkYardModel" "lasts" "[I") (by decide +kernel)) rfl dX2_delay_135 ?_
                    refine zi_const hx hb dX2_delay_138 ?_
                    refine lv_iload_n hx hb dX2_delay_139 rfl (lv_at hl 2 rfl) ?_
                    refine zi_mul hx hb dX2_delay_140 ?_
                    refine lv_iload hx hb dX2_delay_141 (lv_at hl 0 rfl) ?_
                    refine zi_add hx hb dX2_delay_143 ?_
                    refine zi_const hx hb dX2_delay_144 ?_
                    refine zi_sub hx hb dX2_delay_145 ?_
                    refine ziald hx hb hE hw 14 (mE_a 14 (by decide) rfl) (4 * k + u) (by omega) (by omega) (by omega) dX2_delay_146 ?_
                    refine zi_top (fun v_146 hv_146 => ?_)
                    refine ziast hx hb hE hS hw 14 (mE_a 14 (by decide) rfl) (4 * k + (u + 1)) (by omega) (by omega) (by omega) dX2_delay_147 (fun H locs hw hS => ?_)
                    have hw := hw.cong (mU_a 14 (by decide) rfl ((4 * k + (u + 1))) (v_146))
                    obtain ⟨ma_8, hma_8⟩ : ∃ z : Nat → Nat → Int, z = (va_up ma_7 14 (va_up (ma_7 14) ((4 * k + (u + 1))) (v_146))) := ⟨_, rfl⟩
                    rw [← hma_8] at hw
                    refine zi_iinc (lv' := [(4, .int (iI ((i : Int) + (-1)))), (0, .ref (ad 0)), (1, .int (iI ((k : Int)))), (2, .int (iI (a))), (3, .int (iI (b)))]) hx hb dX2_delay_148 hl (k := 0) rfl (by decide) rfl (fun ls hl => ?_)
                    refine lv_goto (tgt := 78) hx hb dX2_delay_151 (by decide) ?_
                    have hA := rU_s (k := 13) (p := 4 * k + (u + 1)) rU_r hma_7
                    have hB := rU_s (k := 14) (p := 4 * k + (u + 1)) rU_r hma_8
                    have n13 : (fun j => ma_8 13 (4 * k + j)) = va_up (fun j => mb 13 (4 * k + j)) (u + 1) v_122 := by rw [rU_row hB.1 (by decide), hma_7, up_same]; exact sh_up _ _ _ _
                    have n14 : (fun j => ma_8 14 (4 * k + j)) = va_up (fun j => mb 14 (4 * k + j)) (u + 1) v_146 := by rw [hma_8, up_same, rU_row hA.1 (by decide)]; exact sh_up _ _ _ _
                    have v146 : v_146 = mb 14 (4 * k + u) := by rw [hv_146, rU_row hA.1 (by decide)]
                    subst hu
                    have e9 : ((u + 1 : Nat) : Int) + (-1) = (u : Int) := by omega
                    rw [e9] at hl
                    have hfu : mb 13 (4 * k + u) = ma 13 (4 * k + u) := hd13.1 u (by omega)
                    exact ih u ma_8 _ _ _ (by omega) (by omega) (by rw [← hip]; simp only [ipos]; rw [if_pos (by omega)]) (by rw [n13, hv_122]; exact dlI_s hd13 hi) (by rw [n14, v146]; exact dlI_s hd14 hi) (fun j hj => by rw [hB.1 13 j (by omega), hA.1 13 j (by omega), hB.1 14 j (by omega), hA.1 14 j (by omega)]; exact ho j hj) (fun r h13 h14 => by rw [rU_row hB.1 h14, rU_row hA.1 h13]; exact hr2 r h13 h14) hw hS (lv_sub hl [0, 1, 2, 3, 4] rfl)
            exact loop_78 (i0 + 1) i0 ma _ _ _ (by omega) (by omega) rfl dlI_0 dlI_0 (fun _ _ => ⟨rfl, rfl⟩) (fun _ _ _ => rfl) hw hS (lv_sub hl [0, 1, 2, 3, 4] rfl)
          · exfalso; omega
        · refine zi_const hx hb dX2_delay_53 ?_
          refine lv_goto (tgt := 58) hx hb dX2_delay_54 (by decide) ?_
          refine zput (C := RX2) (T := TX2) (N := 19) hx hb hts hinX2 tyX2 tyX2_ok nmX2 hown hE hS hw 0 mE_0 rfl 0 (by decide) (hts (.fieldLink RX2 66 "FormworkYardModel" "thrown" "I") (by decide +kernel)) rfl (ty := .int) (by decide +kernel) rfl rfl (Nat.le_of_ble_eq_true rfl) dX2_delay_58 (fun H locs hw hS => ?_)
          have hw := hw.cong (mU_i 0 (by decide) (3))
          refine lv_aload_n hx hb dX2_delay_61 rfl (lv_at hl 0 rfl) ?_
          refine zget (C := RX2) (T := TX2) (N := 19) hx hb hts hinX2 hown hE hw 0 mE_0 rfl 0 (by decide) (hts (.fieldLink RX2 66 "FormworkYardModel" "thrown" "I") (by decide +kernel)) rfl dX2_delay_62 ?_
          refine zi_top (fun v_62 hv_62 => ?_)
          simp [va_up] at hv_62
          subst hv_62
          refine zf_le (tgt := 70) hx hb dX2_delay_65 (by decide) (by first | decide | (constructor <;> omega)) (fun c_65 => ?_) (fun c_65 => ?_)
          · exfalso; omega
          · refine zi_const hx hb dX2_delay_68 ?_
            refine ziret hx hb hr hlocks hS (Nat.le_of_ble_eq_true rfl) (Nat.le_of_ble_eq_true rfl) (by first | decide | (constructor <;> omega)) ?_ dX2_delay_69
            refine ⟨_, _, hw, by rw [if_pos (by unfold isP; rw [hkt_k]; omega), hkt_k]; (repeat' split) <;> omega, Or.inl ⟨by decide, rfl⟩⟩
      · refine zi_const hx hb dX2_delay_39 ?_
        refine lv_goto (tgt := 58) hx hb dX2_delay_40 (by decide) ?_
        refine zput (C := RX2) (T := TX2) (N := 19) hx hb hts hinX2 tyX2 tyX2_ok nmX2 hown hE hS hw 0 mE_0 rfl 0 (by decide) (hts (.fieldLink RX2 66 "FormworkYardModel" "thrown" "I") (by decide +kernel)) rfl (ty := .int) (by decide +kernel) rfl rfl (Nat.le_of_ble_eq_true rfl) dX2_delay_58 (fun H locs hw hS => ?_)
        have hw := hw.cong (mU_i 0 (by decide) (2))
        refine lv_aload_n hx hb dX2_delay_61 rfl (lv_at hl 0 rfl) ?_
        refine zget (C := RX2) (T := TX2) (N := 19) hx hb hts hinX2 hown hE hw 0 mE_0 rfl 0 (by decide) (hts (.fieldLink RX2 66 "FormworkYardModel" "thrown" "I") (by decide +kernel)) rfl dX2_delay_62 ?_
        refine zi_top (fun v_62 hv_62 => ?_)
        simp [va_up] at hv_62
        subst hv_62
        refine zf_le (tgt := 70) hx hb dX2_delay_65 (by decide) (by first | decide | (constructor <;> omega)) (fun c_65 => ?_) (fun c_65 => ?_)
        · exfalso; omega
        · refine zi_const hx hb dX2_delay_68 ?_
          refine ziret hx hb hr hlocks hS (Nat.le_of_ble_eq_true rfl) (Nat.le_of_ble_eq_true rfl) (by first | decide | (constructor <;> omega)) ?_ dX2_delay_69
          refine ⟨_, _, hw, by rw [if_pos (by unfold isP; rw [hkt_k]; omega), hkt_k]; (repeat' split) <;> omega, Or.inl ⟨by decide, rfl⟩⟩
  · refine zi_const hx hb dX2_delay_9 ?_
    refine lv_goto (tgt := 58) hx hb dX2_delay_10 (by decide) ?_
    refine zput (C := RX2) (T := TX2) (N := 19) hx hb hts hinX2 tyX2 tyX2_ok nmX2 hown hE hS hw 0 mE_0 rfl 0 (by decide) (hts (.fieldLink RX2 66 "FormworkYardModel" "thrown" "I") (by decide +kernel)) rfl (ty := .int) (by decide +kernel) rfl rfl (Nat.le_of_ble_eq_true rfl) dX2_delay_58 (fun H locs hw hS => ?_)
    have hw := hw.cong (mU_i 0 (by decide) (1))
    refine lv_aload_n hx hb dX2_delay_61 rfl (lv_at hl 0 rfl) ?_
    refine zget (C := RX2) (T := TX2) (N := 19) hx hb hts hinX2 hown hE hw 0 mE_0 rfl 0 (by decide) (hts (.fieldLink RX2 66 "FormworkYardModel" "thrown" "I") (by decide +kernel)) rfl dX2_delay_62 ?_
    refine zi_top (fun v_62 hv_62 => ?_)
    simp [va_up] at hv_62
    subst hv_62
    refine zf_le (tgt := 70) hx hb dX2_delay_65 (by decide) (by first | decide | (constructor <;> omega)) (fun c_65 => ?_) (fun c_65 => ?_)
    · exfalso; omega
    · refine zi_const hx hb dX2_delay_68 ?_
      refine ziret hx hb hr hlocks hS (Nat.le_of_ble_eq_true rfl) (Nat.le_of_ble_eq_true rfl) (by first | decide | (constructor <;> omega)) ?_ dX2_delay_69
      refine ⟨_, _, hw, by rw [if_neg (by unfold isP; omega)], Or.inl ⟨by decide, rfl⟩⟩
