theorem FM_0 {mi : Nat → Int} {ma : Nat → Nat → Int} {c : Int} {K : Nat} : FM (va_up mi 0 c) ma K = FM mi ma K := by
  have e1 : stS (va_up mi 0 c) ma = stS mi ma := funext fun p => by simp [stS, va_up]
  have e2 : ∀ p, frS (va_up mi 0 c) ma p = frS mi ma p := fun p => by
    unfold frS kS
    rw [endM_0]
    simp [va_up]
  have e3 : bsM (va_up mi 0 c) ma = bsM mi ma := funext fun q => funext fun h => by
    unfold bsM
    rw [e1, e2]
  have e4 : va_up mi 0 c 2 = mi 2 := up_ne _ _ (by decide)
  unfold FM
  rw [e1, e3, e4]
set_option maxHeartbeats 4000000 in
set_option maxRecDepth 100000 in
theorem c_X2_panelsOf (l : Launch) (D : va_G) (cy : Nat → ClassId) (A : Nat → Prop) (ad : Nat → Nat) (mi : Nat → Int) (ma : Nat → Nat → Int) (H0 : Heap) (p : Int) (hw : zW D A ad (mE cy ad mi ma) H0) (h1 : zr p) (hm0 : mOK mi ma) : Met l yX2_panelsOf wsX2_panelsOf ({ frames := 6, cells := 0, slots := 0, locals := 132 }) (zPc D cy A [.ref (ad 0), .int (iI (p))] H0) (zQi (fun z H1 => ∃ (c : Int) (mb : Nat → Nat → Int), zW D A ad (mE cy ad (va_up mi 0 c) mb) H1 ∧ sU ma mb ∧ c = (if isP ma p then 0 else 1) ∧ (c = 0 → z = sl (fun j => bI (FM mi ma 10000 p.toNat j)) 60)) A) 0 0 A := by
  refine Met.ofW (cc := cX2_panelsOf) (maxL := 4) (ret := (some .int)) (by decide) rfl ?_
  intro pg en s mt args below meth c s₁ B hml hv
  obtain ⟨rfl, hH, hE⟩ := hv
  subst hH
  have hx := B.exec
  have hb := B.bytes
  have hr := B.returns
  have hts := atoms_spec (ws := wsX2_panelsOf) B.pre
  have hown : s.vm.findClass RX2 = some mt.cls := findClass_of_methodNamed B.named
  have hlocks := B.notSynchronized
  have hinX2 : ∀ w ∈ u_ws RX2 TX2 19, w ∈ wsX2_panelsOf := by decide +kernel
  have hS : va_S A s.heap s.heap [] := va_S.rf
  have hl := lv_entry ([.ref (ad 0), .int (iI (p))]) (n := 4) (Nat.le_of_ble_eq_true rfl)
  rw [lg_entry_eq]
  generalize (lg_sl ([.ref (ad 0), .int (iI (p))]) ++ List.replicate (4 - (lg_sl ([.ref (ad 0), .int (iI (p))])).length) Slot.unset).toArray = ls at hl ⊢
  have hl : lv_has ls 4 [(0, .ref (ad 0)), (1, .int (iI (p)))] := hl
  obtain ⟨ht, hg, hb7, hpo⟩ := id hm0
  refine lv_aload_n hx hb dX2_panelsOf_0 rfl (lv_at hl 0 rfl) ?_
  refine lv_aload_n hx hb dX2_panelsOf_1 rfl (lv_at hl 0 rfl) ?_
  refine lv_iload_n hx hb dX2_panelsOf_2 rfl (lv_at hl 1 rfl) ?_
  refine zcalli (va_runV (As := [.int (iI (p))]) (rest := [.ref (ad 0)]) ⟨hx, hb, hml, hown, hts⟩ (c_X2_isPour l D cy A ad mi ma _ (p) hw (by first | decide | (constructor <;> omega)) hb7) (cwV 1 hts gX2_panelsOf_X2_isPour rfl rfl rfl (by decide +kernel) ⟨(Nat.le_of_ble_eq_true rfl), (Nat.le_of_ble_eq_true rfl)⟩) (zPV hE hS hw (ci := 2) (k0 := 0) rfl mE_0) rfl rfl hl.1 rfl (lv_room (Nat.le_of_ble_eq_true rfl)) dX2_panelsOf_3 ⟨(Nat.le_of_ble_eq_true rfl), (Nat.le_of_ble_eq_true rfl)⟩) hS (fun z_3 H1 locs hz_3 hq hz1 hk1 hS => ?_)
  obtain ⟨hqe, hv_3⟩ := hq
  replace hqe := hqe.symm
  subst hqe
  refine zf_eq (tgt := 13) hx hb dX2_panelsOf_6 (by decide) (by first | decide | (constructor <;> omega)) (fun c_6 => ?_) (fun c_6 => ?_)
  · refine zi_const hx hb dX2_panelsOf_13 ?_
    refine zput (C := RX2) (T := TX2) (N := 19) hx hb hts hinX2 tyX2 tyX2_ok nmX2 hown hE hS hw 0 mE_0 rfl 0 (by decide) (hts (.fieldLink RX2 66 "FormworkYardModel" "thrown" "I") (by decide +kernel)) rfl (ty := .int) (by decide +kernel) rfl rfl (Nat.le_of_ble_eq_true rfl) dX2_panelsOf_14 (fun H locs hw hS => ?_)
    have hw := hw.cong (mU_i 0 (by decide) (1))
    refine lv_aload_n hx hb dX2_panelsOf_17 rfl (lv_at hl 0 rfl) ?_
    refine zcallv (va_runV (As := []) (rest := []) ⟨hx, hb, hml, hown, hts⟩ (c_X2_gives l D cy A ad (va_up mi 0 (1)) ma _ hw (mOK_0.mpr hm0)) (cwV 0 hts gX2_panelsOf_X2_gives rfl rfl rfl (by decide +kernel) ⟨(Nat.le_of_ble_eq_true rfl), (Nat.le_of_ble_eq_true rfl)⟩) (zPV hE hS hw (ci := 2) (k0 := 0) rfl mE_0) rfl rfl hl.1 rfl (lv_room (Nat.le_of_ble_eq_true rfl)) dX2_panelsOf_18 ⟨(Nat.le_of_ble_eq_true rfl), (Nat.le_of_ble_eq_true rfl)⟩) hS (fun H1 locs hq hz1 hk1 hS => ?_)
    obtain ⟨ma_g, hw, hgU, hgV, hgH, hgB⟩ := hq
    rw [FM_0] at hgH
    refine zi_const hx hb dX2_panelsOf_21 ?_
    refine lv_istore_n (lv' := [(2, .int (iI (0))), (0, .ref (ad 0)), (1, .int (iI (p)))]) hx hb dX2_panelsOf_22 rfl hl (by decide) rfl (fun ls hl => ?_)
    refine zi_const hx hb dX2_panelsOf_23 ?_
    refine lv_istore_n (lv' := [(3, .int (iI (0))), (2, .int (iI (0))), (0, .ref (ad 0)), (1, .int (iI (p)))]) hx hb dX2_panelsOf_24 rfl hl (by decide) rfl (fun ls hl => ?_)
    refine lv_iload_n hx hb dX2_panelsOf_25 rfl (lv_at hl 0 rfl) ?_
    refine zi_bipush hx hb dX2_panelsOf_26 (by decide) ?_
    refine zc_ge (tgt := 66) hx hb dX2_panelsOf_28 (by decide) (by first | decide | (constructor <;> omega)) (by first | decide | (constructor <;> omega)) (fun c_28 => ?_) (fun c_28 => ?_)
    · exfalso; omega
    · refine lv_aload_n hx hb dX2_panelsOf_31 rfl (lv_at hl 2 rfl) ?_
      refine zget (C := RX2) (T := TX2) (N := 19) hx hb hts hinX2 hown hE hw 0 mE_0 rfl 0 (by decide) (hts (.fieldLink RX2 66 "FormworkYardModel" "thrown" "I") (by decide +kernel)) rfl dX2_panelsOf_32 ?_
      refine zi_top (fun v_32 hv_32 => ?_)
      simp [va_up] at hv_32
      subst hv_32
      refine zf_ne (tgt := 66) hx hb dX2_panelsOf_35 (by decide) (by first | decide | (constructor <;> omega)) (fun c_35 => ?_) (fun c_35 => ?_)
      · refine lv_iload_n hx hb dX2_panelsOf_66 rfl (lv_at hl 1 rfl) ?_
        refine ziret hx hb hr hlocks hS (Nat.le_of_ble_eq_true rfl) (Nat.le_of_ble_eq_true rfl) (by first | decide | (constructor <;> omega)) ?_ dX2_panelsOf_67
        refine ⟨_, _, hw, gU_s hgU, by unfold isP; (repeat' split) <;> omega, ?_⟩
        intro hc0
        exfalso; omega
      · exfalso; omega
  · refine zi_const hx hb dX2_panelsOf_9 ?_
    refine lv_goto (tgt := 14) hx hb dX2_panelsOf_10 (by decide) ?_
    refine zput (C := RX2) (T := TX2) (N := 19) hx hb hts hinX2 tyX2 tyX2_ok nmX2 hown hE hS hw 0 mE_0 rfl 0 (by decide) (hts (.fieldLink RX2 66 "FormworkYardModel" "thrown" "I") (by decide +kernel)) rfl (ty := .int) (by decide +kernel) rfl rfl (Nat.le_of_ble_eq_true rfl) dX2_panelsOf_14 (fun H locs hw hS => ?_)
    have hw := hw.cong (mU_i 0 (by decide) (0))
    obtain ⟨k, hkp_k⟩ : ∃ k : Nat, p = k := ⟨(p).toNat, by omega⟩
    rw [hkp_k] at hl
    have hkt_k : (p).toNat = k := by omega
    refine lv_aload_n hx hb dX2_panelsOf_17 rfl (lv_at hl 0 rfl) ?_
    refine zcallv (va_runV (As := []) (rest := []) ⟨hx, hb, hml, hown, hts⟩ (c_X2_gives l D cy A ad (va_up mi 0 (0)) ma _ hw (mOK_0.mpr hm0)) (cwV 0 hts gX2_panelsOf_X2_gives rfl rfl rfl (by decide +kernel) ⟨(Nat.le_of_ble_eq_true rfl), (Nat.le_of_ble_eq_true rfl)⟩) (zPV hE hS hw (ci := 2) (k0 := 0) rfl mE_0) rfl rfl hl.1 rfl (lv_room (Nat.le_of_ble_eq_true rfl)) dX2_panelsOf_18 ⟨(Nat.le_of_ble_eq_true rfl), (Nat.le_of_ble_eq_true rfl)⟩) hS (fun H1 locs hq hz1 hk1 hS => ?_)
    obtain ⟨ma_g, hw, hgU, hgV, hgH, hgB⟩ := hq
    rw [FM_0] at hgH
    refine zi_const hx hb dX2_panelsOf_21 ?_
    refine lv_istore_n (lv' := [(2, .int (iI (0))), (0, .ref (ad 0)), (1, .int (iI ((k : Int))))]) hx hb dX2_panelsOf_22 rfl hl (by decide) rfl (fun ls hl => ?_)
    refine zi_const hx hb dX2_panelsOf_23 ?_
    refine lv_istore_n (lv' := [(3, .int (iI (0))), (2, .int (iI (0))), (0, .ref (ad 0)), (1, .int (iI ((k : Int))))]) hx hb dX2_panelsOf_24 rfl hl (by decide) rfl (fun ls hl => ?_)
    have loop_25 : ∀ (n : Nat) (x : Nat) (w : Int) (H : Heap) (locs : List Loc) (ls : Array Slot), 60 - x < n → (x ≤ 60) → (w = sl (fun j => bI (FM mi ma 10000 k j)) x) → zW D A ad (mE cy ad (va_up mi 0 (0)) ma_g) H → va_S A s.heap H locs → lv_has ls 4 [(3, .int (iI ((x : Int)))), (2, .int (iI (w))), (0, .ref (ad 0)), (1, .int (iI ((k : Int))))] → W pg l en (headSpec wsX2_panelsOf ({ frames := 6, cells := 0, slots := 0, locals := 132 })).room s mt ([.ref (ad 0), .int (iI (p))] : List Value).toArray below meth c H locs 0 0 (MQ below (zQi (fun z H1 => ∃ (c : Int) (mb : Nat → Nat → Int), zW D A ad (mE cy ad (va_up mi 0 c) mb) H1 ∧ sU ma mb ∧ c = (if isP ma p then 0 else 1) ∧ (c = 0 → z = sl (fun j => bI (FM mi ma 10000 p.toNat j)) 60)) A) ([.ref (ad 0), .int (iI (p))] : List Value).toArray s 0 0 A) (F0 mt 25 ls []) := by
      intro n
      induction n with
      | zero =>
        intro x w H locs ls hm hx9 hk9
        exfalso; omega
      | succ n ih =>
        intro x w H locs ls hm hx9 hk9 hw hS hl
        have hbb := sl_b (f := fun j => bI (FM mi ma 10000 k j)) (a := 0) (b := 1) (n := x) (fun i hi => by have := bI_b (FM mi ma 10000 k i); constructor <;> (try simp only []) <;> omega)
        refine lv_iload_n hx hb dX2_panelsOf_25 rfl (lv_at hl 0 rfl) ?_
        refine zi_bipush hx hb dX2_panelsOf_26 (by decide) ?_
        refine zc_ge (tgt := 66) hx hb dX2_panelsOf_28 (by decide) (by first | decide | (constructor <;> omega)) (by first | decide | (constructor <;> omega)) (fun c_28 => ?_) (fun c_28 => ?_)
        · refine lv_iload_n hx hb dX2_panelsOf_66 rfl (lv_at hl 1 rfl) ?_
          refine ziret hx hb hr hlocks hS (Nat.le_of_ble_eq_true rfl) (Nat.le_of_ble_eq_true rfl) (by first | decide | (constructor <;> omega)) ?_ dX2_panelsOf_67
          refine ⟨_, _, hw, gU_s hgU, by unfold isP; (repeat' split) <;> omega, ?_⟩
          intro hc0
          rw [hkt_k, hk9, show x = 60 by omega]
        · refine lv_aload_n hx hb dX2_panelsOf_31 rfl (lv_at hl 2 rfl) ?_
          refine zget (C := RX2) (T := TX2) (N := 19) hx hb hts hinX2 hown hE hw 0 mE_0 rfl 0 (by decide) (hts (.fieldLink RX2 66 "FormworkYardModel" "thrown" "I") (by decide +kernel)) rfl dX2_panelsOf_32 ?_
          refine zi_top (fun v_32 hv_32 => ?_)
          simp [va_up] at hv_32
          subst hv_32
          refine zf_ne (tgt := 66) hx hb dX2_panelsOf_35 (by decide) (by first | decide | (constructor <;> omega)) (fun c_35 => ?_) (fun c_35 => ?_)
          · exfalso; omega
          · refine lv_iload_n hx hb dX2_panelsOf_38 rfl (lv_at hl 1 rfl) ?_
            refine lv_aload_n hx hb dX2_panelsOf_39 rfl (lv_at hl 2 rfl) ?_
            refine zget (C := RX2) (T := TX2) (N := 19) hx hb hts hinX2 hown hE hw 0 mE_0 rfl 18 (by decide) (hts (.fieldLink RX2 63 "FormworkYardModel" "has" "[Z") (by decide +kernel)) rfl dX2_panelsOf_40 ?_
            refine zi_bipush hx hb dX2_panelsOf_43 (by decide) ?_
            refine lv_iload_n hx hb dX2_panelsOf_45 rfl (lv_at hl 3 rfl) ?_
            refine zi_mul hx hb dX2_panelsOf_46 ?_
            refine lv_iload_n hx hb dX2_panelsOf_47 rfl (lv_at hl 0 rfl) ?_
            refine zi_add hx hb dX2_panelsOf_48 ?_
            refine zzald hx hb hE hw 18 (mE_a 18 (by decide) rfl) (60 * k + x) (by omega) (by omega) (by omega) dX2_panelsOf_49 ?_
            refine zi_top (fun v_49 hv_49 => ?_)
            rw [hgH k (by omega) x (by omega)] at hv_49
            have hbi := bI_b (FM mi ma 10000 k x)
            refine zf_eq (tgt := 57) hx hb dX2_panelsOf_50 (by decide) (by first | decide | (constructor <;> omega)) (fun c_50 => ?_) (fun c_50 => ?_)
            · refine zi_const hx hb dX2_panelsOf_57 ?_
              refine zi_add hx hb dX2_panelsOf_58 ?_
              refine zi_top (fun x_59 hx_59 => ?_)
              refine lv_istore_n (lv' := [(2, .int (iI (x_59))), (3, .int (iI ((x : Int)))), (0, .ref (ad 0)), (1, .int (iI ((k : Int))))]) hx hb dX2_panelsOf_59 rfl hl (by decide) rfl (fun ls hl => ?_)
              refine zi_iinc (lv' := [(3, .int (iI ((x : Int) + 1))), (2, .int (iI (x_59))), (0, .ref (ad 0)), (1, .int (iI ((k : Int))))]) hx hb dX2_panelsOf_60 hl (k := 1) rfl (by decide) rfl (fun ls hl => ?_)
              refine lv_goto (tgt := 25) hx hb dX2_panelsOf_63 (by decide) ?_
              exact ih (x + 1) x_59 _ _ _ (by omega) (by omega) (by simp only [sl]; omega) hw hS (lv_sub hl [0, 1, 2, 3] rfl)
            · refine zi_const hx hb dX2_panelsOf_53 ?_
              refine lv_goto (tgt := 58) hx hb dX2_panelsOf_54 (by decide) ?_
              refine zi_add hx hb dX2_panelsOf_58 ?_
              refine zi_top (fun x_59 hx_59 => ?_)
              refine lv_istore_n (lv' := [(2, .int (iI (x_59))), (3, .int (iI ((x : Int)))), (0, .ref (ad 0)), (1, .int (iI ((k : Int))))]) hx hb dX2_panelsOf_59 rfl hl (by decide) rfl (fun ls hl => ?_)
              refine zi_iinc (lv' := [(3, .int (iI ((x : Int) + 1))), (2, .int (iI (x_59))), (0, .ref (ad 0)), (1, .int (iI ((k : Int))))]) hx hb dX2_panelsOf_60 hl (k := 1) rfl (by decide) rfl (fun ls hl => ?_)
              refine lv_goto (tgt := 25) hx hb dX2_panelsOf_63 (by decide) ?_
              exact ih (x + 1) x_59 _ _ _ (by omega) (by omega) (by simp only [sl]; omega) hw hS (lv_sub hl [0, 1, 2, 3] rfl)
    exact loop_25 61 0 0 _ _ _ (by omega) (by omega) rfl hw hS (lv_sub hl [0, 1, 2, 3] rfl)

set_option maxHeartbeats 4000000 in
set_option maxRecDepth 100000 in
theorem c_X2_pourOf (l : Launch) (D : va_G) (cy : Nat → ClassId) (A : Nat → Prop) (ad : Nat → Nat) (mi : Nat → Int) (ma : Nat → Nat → Int) (H0 : Heap) (a h : Int) (hw : zW D A ad (mE cy ad mi ma) H0) (h1 : zr a) (h2 : zr h) (hm0 : mOK mi ma) : Met l yX2_pourOf wsX2_pourOf ({ frames := 6, cells := 0, slots := 0, locals := 132 }) (zPc D cy A [.ref (ad 0), .int (iI (a)), .int (iI (h))] H0) (zQi (fun z H1 => ∃ (c : Int) (mb : Nat → Nat → Int), zW D A ad (mE cy ad (va_up mi 0 c) mb) H1 ∧ sU ma mb ∧ c = (if (0 ≤ a ∧ a < mi 2) ∧ 0 ≤ h ∧ h < 1000 then 0 else 1) ∧ (c = 0 → ∃ k : Nat, a = k ∧ ((z = -1 ∧ ∀ q, q < 10 → ¬ (FM mi ma 10000 q k = true ∧ bsM mi ma q h = true)) ∨ (0 ≤ z ∧ z < 10 ∧ (FM mi ma 10000 z.toNat k = true ∧ bsM mi ma z.toNat h = true))))) A) 0 0 A := by
  refine Met.ofW (cc := cX2_pourOf) (maxL := 5) (ret := (some .int)) (by decide) rfl ?_
  intro pg en s mt args below meth c s₁ B hml hv
  obtain ⟨rfl, hH, hE⟩ := hv
  subst hH
  have hx := B.exec
  have hb := B.bytes
  have hr := B.returns
  have hts := atoms_spec (ws := wsX2_pourOf) B.pre
  have hown : s.vm.findClass RX2 = some mt.cls := findClass_of_methodNamed B.named
  have hlocks := B.notSynchronized
  have hinX2 : ∀ w ∈ u_ws RX2 TX2 19, w ∈ wsX2_pourOf := by decide +kernel
  have hS : va_S A s.heap s.heap [] := va_S.rf
  have hl := lv_entry ([.ref (ad 0), .int (iI (a)), .int (iI (h))]) (n := 5) (Nat.le_of_ble_eq_true rfl)
  rw [lg_entry_eq]
  generalize (lg_sl ([.ref (ad 0), .int (iI (a)), .int (iI (h))]) ++ List.replicate (5 - (lg_sl ([.ref (ad 0), .int (iI (a)), .int (iI (h))])).length) Slot.unset).toArray = ls at hl ⊢
  have hl : lv_has ls 5 [(0, .ref (ad 0)), (1, .int (iI (a))), (2, .int (iI (h)))] := hl
  obtain ⟨ht, hg, hb7, hpo⟩ := id hm0
  obtain ⟨g1, g2, g3, g4, g5⟩ := id hg
  refine lv_aload_n hx hb dX2_pourOf_0 rfl (lv_at hl 0 rfl) ?_
  refine lv_iload_n hx hb dX2_pourOf_1 rfl (lv_at hl 1 rfl) ?_
  refine zi_const hx hb dX2_pourOf_2 ?_
  refine lv_aload_n hx hb dX2_pourOf_3 rfl (lv_at hl 0 rfl) ?_
  refine zget (C := RX2) (T := TX2) (N := 19) hx hb hts hinX2 hown hE hw 0 mE_0 rfl 2 (by decide) (hts (.fieldLink RX2 13 "FormworkYardModel" "panels" "I") (by decide +kernel)) rfl dX2_pourOf_4 ?_
  refine zi_const hx hb dX2_pourOf_7 ?_
  refine zi_sub hx hb dX2_pourOf_8 ?_
  refine zcalli (va_runS (As := [.int (iI (a)), .int (iI (0)), .int (iI ((mi 2) - 1))]) (rest := [.ref (ad 0)]) ⟨hx, hb, hml, hown, hts⟩ (c_X2_in l D cy A ad _ (a) (0) ((mi 2) - 1) (by first | decide | (constructor <;> omega)) (by first | decide | (constructor <;> omega)) (by first | decide | (constructor <;> omega))) (va_cwS 3 hts gX2_pourOf_X2_in rfl rfl rfl (by decide +kernel) ⟨(Nat.le_of_ble_eq_true rfl), (Nat.le_of_ble_eq_true rfl)⟩) (zPS hE hS) rfl rfl hl.1 rfl (lv_room (Nat.le_of_ble_eq_true rfl)) dX2_pourOf_9 ⟨(Nat.le_of_ble_eq_true rfl), (Nat.le_of_ble_eq_true rfl)⟩) hS (fun z_9 H1 locs hz_9 hq hz1 hk1 hS => ?_)
  obtain ⟨hqe, hv_9⟩ := hq
  replace hqe := hqe.symm
  subst hqe
  refine zf_eq (tgt := 26) hx hb dX2_pourOf_12 (by decide) (by first | decide | (constructor <;> omega)) (fun c_12 => ?_) (fun c_12 => ?_)
  · refine zi_const hx hb dX2_pourOf_26 ?_
    refine zput (C := RX2) (T := TX2) (N := 19) hx hb hts hinX2 tyX2 tyX2_ok nmX2 hown hE hS hw 0 mE_0 rfl 0 (by decide) (hts (.fieldLink RX2 66 "FormworkYardModel" "thrown" "I") (by decide +kernel)) rfl (ty := .int) (by decide +kernel) rfl rfl (Nat.le_of_ble_eq_true rfl) dX2_pourOf_27 (fun H locs hw hS => ?_)
    have hw := hw.cong (mU_i 0 (by decide) (1))
    refine lv_aload_n hx hb dX2_pourOf_30 rfl (lv_at hl 0 rfl) ?_
    refine zcallv (va_runV (As := []) (rest := []) ⟨hx, hb, hml, hown, hts⟩ (c_X2_gives l D cy A ad (va_up mi 0 (1)) ma _ hw (mOK_0.mpr hm0)) (cwV 0 hts gX2_pourOf_X2_gives rfl rfl rfl (by decide +kernel) ⟨(Nat.le_of_ble_eq_true rfl), (Nat.le_of_ble_eq_true rfl)⟩) (zPV hE hS hw (ci := 2) (k0 := 0) rfl mE_0) rfl rfl hl.1 rfl (lv_room (Nat.le_of_ble_eq_true rfl)) dX2_pourOf_31 ⟨(Nat.le_of_ble_eq_true rfl), (Nat.le_of_ble_eq_true rfl)⟩) hS (fun H1 locs hq hz1 hk1 hS => ?_)
    obtain ⟨ma_g, hw, hgU, hgV, hgH, hgB⟩ := hq
    rw [FM_0] at hgH
    have e7 : ma_g 7 = ma 7 := gU_row hgU (by decide)
    have hgV2 : ∀ q, q < 10 → ma 7 q = 1 → wV mi ma q ma_g := fun q hq h7 => wV_0.mp (hgV q hq h7)
    have hb7g : ∀ j, j < 11 → ma_g 7 j = 0 ∨ ma_g 7 j = 1 := by rw [e7]; exact hb7
    have hr9 : ∀ q, q < 10 → ma_g 7 q = 1 → zr (ma_g 15 q) ∧ zr (ma_g 17 q) := fun q hq h7 => by rw [e7] at h7; have hb := wV_b hg (hpo q hq h7) (hgV2 q hq h7); exact ⟨⟨by omega, by omega⟩, ⟨by omega, by omega⟩⟩
    refine zi_const hx hb dX2_pourOf_34 ?_
    refine lv_istore_n (lv' := [(3, .int (iI ((-1)))), (0, .ref (ad 0)), (1, .int (iI (a))), (2, .int (iI (h)))]) hx hb dX2_pourOf_35 rfl hl (by decide) rfl (fun ls hl => ?_)
    refine zi_const hx hb dX2_pourOf_36 ?_
    refine lv_istore (lv' := [(4, .int (iI (0))), (3, .int (iI ((-1)))), (0, .ref (ad 0)), (1, .int (iI (a))), (2, .int (iI (h)))]) hx hb dX2_pourOf_37 hl (by decide) rfl (fun ls hl => ?_)
    refine lv_iload hx hb dX2_pourOf_39 (lv_at hl 0 rfl) ?_
    refine zi_bipush hx hb dX2_pourOf_41 (by decide) ?_
    refine zc_ge (tgt := 91) hx hb dX2_pourOf_43 (by decide) (by first | decide | (constructor <;> omega)) (by first | decide | (constructor <;> omega)) (fun c_43 => ?_) (fun c_43 => ?_)
    · exfalso; omega
    · refine lv_aload_n hx hb dX2_pourOf_46 rfl (lv_at hl 2 rfl) ?_
      refine zget (C := RX2) (T := TX2) (N := 19) hx hb hts hinX2 hown hE hw 0 mE_0 rfl 0 (by decide) (hts (.fieldLink RX2 66 "FormworkYardModel" "thrown" "I") (by decide +kernel)) rfl dX2_pourOf_47 ?_
      refine zi_top (fun v_47 hv_47 => ?_)
      simp [va_up] at hv_47
      subst hv_47
      refine zf_ne (tgt := 91) hx hb dX2_pourOf_50 (by decide) (by first | decide | (constructor <;> omega)) (fun c_50 => ?_) (fun c_50 => ?_)
      · refine lv_aload_n hx hb dX2_pourOf_91 rfl (lv_at hl 2 rfl) ?_
        refine zget (C := RX2) (T := TX2) (N := 19) hx hb hts hinX2 hown hE hw 0 mE_0 rfl 0 (by decide) (hts (.fieldLink RX2 66 "FormworkYardModel" "thrown" "I") (by decide +kernel)) rfl dX2_pourOf_92 ?_
        refine zi_top (fun v_92 hv_92 => ?_)
        simp [va_up] at hv_92
        subst hv_92
        refine zf_le (tgt := 102) hx hb dX2_pourOf_95 (by decide) (by first | decide | (constructor <;> omega)) (fun c_95 => ?_) (fun c_95 => ?_)
        · exfalso; omega
        · refine zi_const hx hb dX2_pourOf_98 ?_
          refine lv_goto (tgt := 103) hx hb dX2_pourOf_99 (by decide) ?_
          refine ziret hx hb hr hlocks hS (Nat.le_of_ble_eq_true rfl) (Nat.le_of_ble_eq_true rfl) (by first | decide | (constructor <;> omega)) ?_ dX2_pourOf_103
          refine ⟨_, _, hw, gU_s hgU, by (repeat' split) <;> omega, ?_⟩
          intro hc0
          exfalso; omega
      · exfalso; omega
  · refine lv_iload_n hx hb dX2_pourOf_15 rfl (lv_at hl 2 rfl) ?_
    refine zcalli (va_runS (As := [.int (iI (h))]) (rest := [.ref (ad 0)]) ⟨hx, hb, hml, hown, hts⟩ (c_X2_isHour l D cy A ad _ (h) (by first | decide | (constructor <;> omega))) (va_cwS 1 hts gX2_pourOf_X2_isHour rfl rfl rfl (by decide +kernel) ⟨(Nat.le_of_ble_eq_true rfl), (Nat.le_of_ble_eq_true rfl)⟩) (zPS hE hS) rfl rfl hl.1 rfl (lv_room (Nat.le_of_ble_eq_true rfl)) dX2_pourOf_16 ⟨(Nat.le_of_ble_eq_true rfl), (Nat.le_of_ble_eq_true rfl)⟩) hS (fun z_16 H1 locs hz_16 hq hz1 hk1 hS => ?_)
    obtain ⟨hqe, hv_16⟩ := hq
    replace hqe := hqe.symm
    subst hqe
    refine zf_eq (tgt := 26) hx hb dX2_pourOf_19 (by decide) (by first | decide | (constructor <;> omega)) (fun c_19 => ?_) (fun c_19 => ?_)
    · refine zi_const hx hb dX2_pourOf_26 ?_
      refine zput (C := RX2) (T := TX2) (N := 19) hx hb hts hinX2 tyX2 tyX2_ok nmX2 hown hE hS hw 0 mE_0 rfl 0 (by decide) (hts (.fieldLink RX2 66 "FormworkYardModel" "thrown" "I") (by decide +kernel)) rfl (ty := .int) (by decide +kernel) rfl rfl (Nat.le_of_ble_eq_true rfl) dX2_pourOf_27 (fun H locs hw hS => ?_)
      have hw := hw.cong (mU_i 0 (by decide) (1))
      refine lv_aload_n hx hb dX2_pourOf_30 rfl (lv_at hl 0 rfl) ?_
      refine zcallv (va_runV (As := []) (rest := []) ⟨hx, hb, hml, hown, hts⟩ (c_X2_gives l D cy A ad (va_up mi 0 (1)) ma _ hw (mOK_0.mpr hm0)) (cwV 0 hts gX2_pourOf_X2_gives rfl rfl rfl (by decide +kernel) ⟨(Nat.le_of_ble_eq_true rfl), (Nat.le_of_ble_eq_true rfl)⟩) (zPV hE hS hw (ci := 2) (k0 := 0) rfl mE_0) rfl rfl hl.1 rfl (lv_room (Nat.le_of_ble_eq_true rfl)) dX2_pourOf_31 ⟨(Nat.le_of_ble_eq_true rfl), (Nat.le_of_ble_eq_true rfl)⟩) hS (fun H1 locs hq hz1 hk1 hS => ?_)
      obtain ⟨ma_g, hw, hgU, hgV, hgH, hgB⟩ := hq
      rw [FM_0] at hgH
      have e7 : ma_g 7 = ma 7 := gU_row hgU (by decide)
      have hgV2 : ∀ q, q < 10 → ma 7 q = 1 → wV mi ma q ma_g := fun q hq h7 => wV_0.mp (hgV q hq h7)
      have hb7g : ∀ j, j < 11 → ma_g 7 j = 0 ∨ ma_g 7 j = 1 := by rw [e7]; exact hb7
      have hr9 : ∀ q, q < 10 → ma_g 7 q = 1 → zr (ma_g 15 q) ∧ zr (ma_g 17 q) := fun q hq h7 => by rw [e7] at h7; have hb := wV_b hg (hpo q hq h7) (hgV2 q hq h7); exact ⟨⟨by omega, by omega⟩, ⟨by omega, by omega⟩⟩
      refine zi_const hx hb dX2_pourOf_34 ?_
      refine lv_istore_n (lv' := [(3, .int (iI ((-1)))), (0, .ref (ad 0)), (1, .int (iI (a))), (2, .int (iI (h)))]) hx hb dX2_pourOf_35 rfl hl (by decide) rfl (fun ls hl => ?_)
      refine zi_const hx hb dX2_pourOf_36 ?_
      refine lv_istore (lv' := [(4, .int (iI (0))), (3, .int (iI ((-1)))), (0, .ref (ad 0)), (1, .int (iI (a))), (2, .int (iI (h)))]) hx hb dX2_pourOf_37 hl (by decide) rfl (fun ls hl => ?_)
      refine lv_iload hx hb dX2_pourOf_39 (lv_at hl 0 rfl) ?_
      refine zi_bipush hx hb dX2_pourOf_41 (by decide) ?_
      refine zc_ge (tgt := 91) hx hb dX2_pourOf_43 (by decide) (by first | decide | (constructor <;> omega)) (by first | decide | (constructor <;> omega)) (fun c_43 => ?_) (fun c_43 => ?_)
      · exfalso; omega
      · refine lv_aload_n hx hb dX2_pourOf_46 rfl (lv_at hl 2 rfl) ?_
        refine zget (C := RX2) (T := TX2) (N := 19) hx hb hts hinX2 hown hE hw 0 mE_0 rfl 0 (by decide) (hts (.fieldLink RX2 66 "FormworkYardModel" "thrown" "I") (by decide +kernel)) rfl dX2_pourOf_47 ?_
        refine zi_top (fun v_47 hv_47 => ?_)
        simp [va_up] at hv_47
        subst hv_47
        refine zf_ne (tgt := 91) hx hb dX2_pourOf_50 (by decide) (by first | decide | (constructor <;> omega)) (fun c_50 => ?_) (fun c_50 => ?_)
        · refine lv_aload_n hx hb dX2_pourOf_91 rfl (lv_at hl 2 rfl) ?_
          refine zget (C := RX2) (T := TX2) (N := 19) hx hb hts hinX2 hown hE hw 0 mE_0 rfl 0 (by decide) (hts (.fieldLink RX2 66 "FormworkYardModel" "thrown" "I") (by decide +kernel)) rfl dX2_pourOf_92 ?_
          refine zi_top (fun v_92 hv_92 => ?_)
          simp [va_up] at hv_92
          subst hv_92
          refine zf_le (tgt := 102) hx hb dX2_pourOf_95 (by decide) (by first | decide | (constructor <;> omega)) (fun c_95 => ?_) (fun c_95 => ?_)
          · exfalso; omega
          · refine zi_const hx hb dX2_pourOf_98 ?_
            refine lv_goto (tgt := 103) hx hb dX2_pourOf_99 (by decide) ?_
            refine ziret hx hb hr hlocks hS (Nat.le_of_ble_eq_true rfl) (Nat.le_of_ble_eq_true rfl) (by first | decide | (constructor <;> omega)) ?_ dX2_pourOf_103
            refine ⟨_, _, hw, gU_s hgU, by (repeat' split) <;> omega, ?_⟩
            intro hc0
            exfalso; omega
        · exfalso; omega
    · refine zi_const hx hb dX2_pourOf_22 ?_
      refine lv_goto (tgt := 27) hx hb dX2_pourOf_23 (by decide) ?_
      refine zput (C := RX2) (T := TX2) (N := 19) hx hb hts hinX2 tyX2 tyX2_ok nmX2 hown hE hS hw 0 mE_0 rfl 0 (by decide) (hts (.fieldLink RX2 66 "FormworkYardModel" "thrown" "I") (by decide +kernel)) rfl (ty := .int) (by decide +kernel) rfl rfl (Nat.le_of_ble_eq_true rfl) dX2_pourOf_27 (fun H locs hw hS => ?_)
      have hw := hw.cong (mU_i 0 (by decide) (0))
      obtain ⟨k, hkp_k⟩ : ∃ k : Nat, a = k := ⟨(a).toNat, by omega⟩
      rw [hkp_k] at hl
      have hkt_k : (a).toNat = k := by omega
      refine lv_aload_n hx hb dX2_pourOf_30 rfl (lv_at hl 0 rfl) ?_
      refine zcallv (va_runV (As := []) (rest := []) ⟨hx, hb, hml, hown, hts⟩ (c_X2_gives l D cy A ad (va_up mi 0 (0)) ma _ hw (mOK_0.mpr hm0)) (cwV 0 hts gX2_pourOf_X2_gives rfl rfl rfl (by decide +kernel) ⟨(Nat.le_of_ble_eq_true rfl), (Nat.le_of_ble_eq_true rfl)⟩) (zPV hE hS hw (ci := 2) (k0 := 0) rfl mE_0) rfl rfl hl.1 rfl (lv_room (Nat.le_of_ble_eq_true rfl)) dX2_pourOf_31 ⟨(Nat.le_of_ble_eq_true rfl), (Nat.le_of_ble_eq_true rfl)⟩) hS (fun H1 locs hq hz1 hk1 hS => ?_)
      obtain ⟨ma_g, hw, hgU, hgV, hgH, hgB⟩ := hq
      rw [FM_0] at hgH
      have e7 : ma_g 7 = ma 7 := gU_row hgU (by decide)
      have hgV2 : ∀ q, q < 10 → ma 7 q = 1 → wV mi ma q ma_g := fun q hq h7 => wV_0.mp (hgV q hq h7)
      have hb7g : ∀ j, j < 11 → ma_g 7 j = 0 ∨ ma_g 7 j = 1 := by rw [e7]; exact hb7
      have hr9 : ∀ q, q < 10 → ma_g 7 q = 1 → zr (ma_g 15 q) ∧ zr (ma_g 17 q) := fun q hq h7 => by rw [e7] at h7; have hb := wV_b hg (hpo q hq h7) (hgV2 q hq h7); exact ⟨⟨by omega, by omega⟩, ⟨by omega, by omega⟩⟩
      refine zi_const hx hb dX2_pourOf_34 ?_
      refine lv_istore_n (lv' := [(3, .int (iI ((-1)))), (0, .ref (ad 0)), (1, .int (iI ((k : Int)))), (2, .int (iI (h)))]) hx hb dX2_pourOf_35 rfl hl (by decide) rfl (fun ls hl => ?_)
      refine zi_const hx hb dX2_pourOf_36 ?_
      refine lv_istore (lv' := [(4, .int (iI (0))), (3, .int (iI ((-1)))), (0, .ref (ad 0)), (1, .int (iI ((k : Int)))), (2, .int (iI (h)))]) hx hb dX2_pourOf_37 hl (by decide) rfl (fun ls hl => ?_)
      have loop_39 : ∀ (n : Nat) (p : Nat) (w : Int) (H : Heap) (locs : List Loc) (ls : Array Slot), 10 - p < n → (p ≤ 10) → ((w = -1 ∧ ∀ q, q < p → ¬ (FM mi ma 10000 q k = true ∧ bsM mi ma q h = true)) ∨ (0 ≤ w ∧ w < p ∧ (FM mi ma 10000 w.toNat k = true ∧ bsM mi ma w.toNat h = true))) → zW D A ad (mE cy ad (va_up mi 0 (0)) ma_g) H → va_S A s.heap H locs → lv_has ls 5 [(4, .int (iI ((p : Int)))), (3, .int (iI (w))), (0, .ref (ad 0)), (1, .int (iI ((k : Int)))), (2, .int (iI (h)))] → W pg l en (headSpec wsX2_pourOf ({ frames := 6, cells := 0, slots := 0, locals := 132 })).room s mt ([.ref (ad 0), .int (iI (a)), .int (iI (h))] : List Value).toArray below meth c H locs 0 0 (MQ below (zQi (fun z H1 => ∃ (c : Int) (mb : Nat → Nat → Int), zW D A ad (mE cy ad (va_up mi 0 c) mb) H1 ∧ sU ma mb ∧ c = (if (0 ≤ a ∧ a < mi 2) ∧ 0 ≤ h ∧ h < 1000 then 0 else 1) ∧ (c = 0 → ∃ k : Nat, a = k ∧ ((z = -1 ∧ ∀ q, q < 10 → ¬ (FM mi ma 10000 q k = true ∧ bsM mi ma q h = true)) ∨ (0 ≤ z ∧ z < 10 ∧ (FM mi ma 10000 z.toNat k = true ∧ bsM mi ma z.toNat h = true))))) A) ([.ref (ad 0), .int (iI (a)), .int (iI (h))] : List Value).toArray s 0 0 A) (F0 mt 39 ls []) := by
        intro n
        induction n with
        | zero =>
          intro p w H locs ls hm hp9 hk9
          exfalso; omega
        | succ n ih =>
          intro p w H locs ls hm hp9 hk9 hw hS hl
          refine lv_iload hx hb dX2_pourOf_39 (lv_at hl 0 rfl) ?_
          refine zi_bipush hx hb dX2_pourOf_41 (by decide) ?_
          refine zc_ge (tgt := 91) hx hb dX2_pourOf_43 (by decide) (by first | decide | (constructor <;> omega)) (by first | decide | (constructor <;> omega)) (fun c_43 => ?_) (fun c_43 => ?_)
          · refine lv_aload_n hx hb dX2_pourOf_91 rfl (lv_at hl 2 rfl) ?_
            refine zget (C := RX2) (T := TX2) (N := 19) hx hb hts hinX2 hown hE hw 0 mE_0 rfl 0 (by decide) (hts (.fieldLink RX2 66 "FormworkYardModel" "thrown" "I") (by decide +kernel)) rfl dX2_pourOf_92 ?_
            refine zi_top (fun v_92 hv_92 => ?_)
            simp [va_up] at hv_92
            subst hv_92
            refine zf_le (tgt := 102) hx hb dX2_pourOf_95 (by decide) (by first | decide | (constructor <;> omega)) (fun c_95 => ?_) (fun c_95 => ?_)
            · refine lv_iload_n hx hb dX2_pourOf_102 rfl (lv_at hl 1 rfl) ?_
              refine ziret hx hb hr hlocks hS (Nat.le_of_ble_eq_true rfl) (Nat.le_of_ble_eq_true rfl) (by first | decide | (constructor <;> omega)) ?_ dX2_pourOf_103
              refine ⟨_, _, hw, gU_s hgU, by (repeat' split) <;> omega, ?_⟩
              intro hc0
              refine ⟨k, hkp_k, ?_⟩
              rw [show p = 10 by omega] at hk9
              exact hk9
            · exfalso; omega
          · refine lv_aload_n hx hb dX2_pourOf_46 rfl (lv_at hl 2 rfl) ?_
            refine zget (C := RX2) (T := TX2) (N := 19) hx hb hts hinX2 hown hE hw 0 mE_0 rfl 0 (by decide) (hts (.fieldLink RX2 66 "FormworkYardModel" "thrown" "I") (by decide +kernel)) rfl dX2_pourOf_47 ?_
            refine zi_top (fun v_47 hv_47 => ?_)
            simp [va_up] at hv_47
            subst hv_47
            refine zf_ne (tgt := 91) hx hb dX2_pourOf_50 (by decide) (by first | decide | (constructor <;> omega)) (fun c_50 => ?_) (fun c_50 => ?_)
            · exfalso; omega
            · refine lv_aload_n hx hb dX2_pourOf_53 rfl (lv_at hl 2 rfl) ?_
              refine zget (C := RX2) (T := TX2) (N := 19) hx hb hts hinX2 hown hE hw 0 mE_0 rfl 18 (by decide) (hts (.fieldLink RX2 63 "FormworkYardModel" "has" "[Z") (by decide +kernel)) rfl dX2_pourOf_54 ?_
              refine zi_bipush hx hb dX2_pourOf_57 (by decide) ?_
              refine lv_iload hx hb dX2_pourOf_59 (lv_at hl 0 rfl) ?_
              refine zi_mul hx hb dX2_pourOf_61 ?_
              refine lv_iload_n hx hb dX2_pourOf_62 rfl (lv_at hl 3 rfl) ?_
              refine zi_add hx hb dX2_pourOf_63 ?_
              refine zzald hx hb hE hw 18 (mE_a 18 (by decide) rfl) (60 * p + k) (by omega) (by omega) (by omega) dX2_pourOf_64 ?_
              refine zi_top (fun v_64 hv_64 => ?_)
              rw [hgH p (by omega) k (by omega)] at hv_64
              have hbi := bI_b (FM mi ma 10000 p k)
              refine zf_eq (tgt := 83) hx hb dX2_pourOf_65 (by decide) (by first | decide | (constructor <;> omega)) (fun c_65 => ?_) (fun c_65 => ?_)
              · refine lv_iload_n hx hb dX2_pourOf_83 rfl (lv_at hl 1 rfl) ?_
                refine lv_istore_n (lv' := [(3, .int (iI (w))), (4, .int (iI ((p : Int)))), (0, .ref (ad 0)), (1, .int (iI ((k : Int)))), (2, .int (iI (h)))]) hx hb dX2_pourOf_84 rfl hl (by decide) rfl (fun ls hl => ?_)
                refine zi_iinc (lv' := [(4, .int (iI ((p : Int) + 1))), (3, .int (iI (w))), (0, .ref (ad 0)), (1, .int (iI ((k : Int)))), (2, .int (iI (h)))]) hx hb dX2_pourOf_85 hl (k := 1) rfl (by decide) rfl (fun ls hl => ?_)
                refine lv_goto (tgt := 39) hx hb dX2_pourOf_88 (by decide) ?_
                exact ih (p + 1) w _ _ _ (by omega) (by omega) (by rcases hk9 with h9 | h9; exact Or.inl ⟨h9.1, fun q hq => by by_cases hqp : q = p; (subst hqp; rintro ⟨t1, t2⟩; rcases hbi with h8 | h8; omega; rw [h8.2] at t1; cases t1); exact h9.2 q (by omega)⟩; exact Or.inr ⟨h9.1, by omega, h9.2.2⟩) hw hS (lv_sub hl [0, 1, 2, 3, 4] rfl)
              · refine lv_aload_n hx hb dX2_pourOf_68 rfl (lv_at hl 2 rfl) ?_
                refine lv_iload hx hb dX2_pourOf_69 (lv_at hl 0 rfl) ?_
                refine lv_iload_n hx hb dX2_pourOf_71 rfl (lv_at hl 4 rfl) ?_
                refine zcalli (va_runV (As := [.int (iI ((p : Int))), .int (iI (h))]) (rest := []) ⟨hx, hb, hml, hown, hts⟩ (c_X2_isBusy l D cy A ad (va_up mi 0 (0)) ma_g _ p (h) hw (by omega) (by first | decide | (constructor <;> omega)) hb7g (fun h9 => hr9 _ (by omega) h9)) (cwV 2 hts gX2_pourOf_X2_isBusy rfl rfl rfl (by decide +kernel) ⟨(Nat.le_of_ble_eq_true rfl), (Nat.le_of_ble_eq_true rfl)⟩) (zPV hE hS hw (ci := 2) (k0 := 0) rfl mE_0) rfl rfl hl.1 rfl (lv_room (Nat.le_of_ble_eq_true rfl)) dX2_pourOf_72 ⟨(Nat.le_of_ble_eq_true rfl), (Nat.le_of_ble_eq_true rfl)⟩) hS (fun z_72 H1 locs hz_72 hq hz1 hk1 hS => ?_)
                obtain ⟨hqe, hv_72⟩ := hq
                replace hqe := hqe.symm
                subst hqe
                have hbz : z_72 = 1 ↔ bsM mi ma p h = true := by
                  unfold bsM; rw [decide_eq_true_eq]; rw [e7] at hv_72
                  constructor
                  · intro h9; have h8 : ma 7 p = 1 ∧ ma_g 15 p ≤ h ∧ h < ma_g 17 p := by rcases hv_72 with h7 | h7; exact h7.2; omega
                    obtain ⟨v1, v2, v3⟩ := hgV2 p (by omega) h8.1; rw [v1, v3] at h8; exact h8
                  · intro h8; obtain ⟨v1, v2, v3⟩ := hgV2 p (by omega) h8.1; rcases hv_72 with h7 | h7; exact h7.1; exact absurd ⟨h8.1, by rw [v1]; exact h8.2.1, by rw [v3]; exact h8.2.2⟩ h7.2
                have hz01 : z_72 = 0 ∨ z_72 = 1 := by rcases hv_72 with h7 | h7; exact Or.inr h7.1; exact Or.inl h7.1
                clear hv_72
                refine zf_eq (tgt := 83) hx hb dX2_pourOf_75 (by decide) (by first | decide | (constructor <;> omega)) (fun c_75 => ?_) (fun c_75 => ?_)
                · refine lv_iload_n hx hb dX2_pourOf_83 rfl (lv_at hl 1 rfl) ?_
                  refine lv_istore_n (lv' := [(3, .int (iI (w))), (4, .int (iI ((p : Int)))), (0, .ref (ad 0)), (1, .int (iI ((k : Int)))), (2, .int (iI (h)))]) hx hb dX2_pourOf_84 rfl hl (by decide) rfl (fun ls hl => ?_)
                  refine zi_iinc (lv' := [(4, .int (iI ((p : Int) + 1))), (3, .int (iI (w))), (0, .ref (ad 0)), (1, .int (iI ((k : Int)))), (2, .int (iI (h)))]) hx hb dX2_pourOf_85 hl (k := 1) rfl (by decide) rfl (fun ls hl => ?_)
                  refine lv_goto (tgt := 39) hx hb dX2_pourOf_88 (by decide) ?_
                  exact ih (p + 1) w _ _ _ (by omega) (by omega) (by rcases hk9 with h9 | h9; exact Or.inl ⟨h9.1, fun q hq => by by_cases hqp : q = p; (subst hqp; rintro ⟨t1, t2⟩; have := hbz.mpr t2; omega); exact h9.2 q (by omega)⟩; exact Or.inr ⟨h9.1, by omega, h9.2.2⟩) hw hS (lv_sub hl [0, 1, 2, 3, 4] rfl)
                · refine lv_iload hx hb dX2_pourOf_78 (lv_at hl 0 rfl) ?_
                  refine lv_goto (tgt := 84) hx hb dX2_pourOf_80 (by decide) ?_
                  refine lv_istore_n (lv' := [(3, .int (iI ((p : Int)))), (4, .int (iI ((p : Int)))), (0, .ref (ad 0)), (1, .int (iI ((k : Int)))), (2, .int (iI (h)))]) hx hb dX2_pourOf_84 rfl hl (by decide) rfl (fun ls hl => ?_)
                  refine zi_iinc (lv' := [(4, .int (iI ((p : Int) + 1))), (3, .int (iI ((p : Int)))), (0, .ref (ad 0)), (1, .int (iI ((k : Int)))), (2, .int (iI (h)))]) hx hb dX2_pourOf_85 hl (k := 1) rfl (by decide) rfl (fun ls hl => ?_)
                  refine lv_goto (tgt := 39) hx hb dX2_pourOf_88 (by decide) ?_
                  exact ih (p + 1) (p : Int) _ _ _ (by omega) (by omega) (Or.inr ⟨by omega, by omega, by rw [Int.toNat_natCast]; exact ⟨by rcases hbi with h9 | h9; exact h9.2; omega, hbz.mp (by omega)⟩⟩) hw hS (lv_sub hl [0, 1, 2, 3, 4] rfl)
      exact loop_39 11 0 (-1) _ _ _ (by omega) (by omega) (Or.inl ⟨rfl, fun q hq => absurd hq (Nat.not_lt_zero q)⟩) hw hS (lv_sub hl [0, 1, 2, 3, 4] rfl)

set_option maxHeartbeats 4000000 in
set_option maxRecDepth 100000 in
theorem c_X2_setTemperature (l : Launch) (D : va_G) (cy : Nat → ClassId) (A : Nat → Prop) (ad : Nat → Nat) (mi : Nat → Int) (ma : Nat → Nat → Int) (H0 : Heap) (a b t : Int) (hw : zW D A ad (mE cy ad mi ma) H0) (h1 : zr a) (h2 : zr b) (h3 : zr t) : Met l yX2_setTemperature wsX2_setTemperature ({ frames := 2, cells := 0, slots := 0, locals := 42 }) (zPc D cy A [.ref (ad 0), .int (iI (a)), .int (iI (b)), .int (iI (t))] H0) (zQv (fun H1 => ∃ (c : Int) (mb : Nat → Nat → Int), zW D A ad (mE cy ad (va_up mi 0 c) mb) H1 ∧ c = (if (0 ≤ a ∧ a < 1000) ∧ (0 ≤ b ∧ b < 1000) then (if a ≤ b ∧ -40 ≤ t ∧ t ≤ 50 then 0 else 2) else 1) ∧ ((c ≠ 0 ∧ mb = ma) ∨ (c = 0 ∧ mb 1 = setT (ma 1) a b t ∧ ∀ r, r ≠ 1 → mb r = ma r))) A) 0 0 A := by
  refine Met.ofW (cc := cX2_setTemperature) (maxL := 5) (ret := none) (by decide) rfl ?_
  intro pg en s mt args below meth c s₁ B hml hv
  obtain ⟨rfl, hH, hE⟩ := hv
  subst hH
  have hx := B.exec
  have hb := B.bytes
  have hr := B.returns
  have hts := atoms_spec (ws := wsX2_setTemperature) B.pre
  have hown : s.vm.findClass RX2 = some mt.cls := findClass_of_methodNamed B.named
  have hlocks := B.notSynchronized
  have hinX2 : ∀ w ∈ u_ws RX2 TX2 19, w ∈ wsX2_setTemperature := by decide +kernel
  have hS : va_S A s.heap s.heap [] := va_S.rf
  have hl := lv_entry ([.ref (ad 0), .int (iI (a)), .int (iI (b)), .int (iI (t))]) (n := 5) (Nat.le_of_ble_eq_true rfl)
  rw [lg_entry_eq]
  generalize (lg_sl ([.ref (ad 0), .int (iI (a)), .int (iI (b)), .int (iI (t))]) ++ List.replicate (5 - (lg_sl ([.ref (ad 0), .int (iI (a)), .int (iI (b)), .int (iI (t))])).length) Slot.unset).toArray = ls at hl ⊢
  have hl : lv_has ls 5 [(0, .ref (ad 0)), (1, .int (iI (a))), (2, .int (iI (b))), (3, .int (iI (t)))] := hl
  refine lv_aload_n hx hb dX2_setTemperature_0 rfl (lv_at hl 0 rfl) ?_
  refine lv_iload_n hx hb dX2_setTemperature_1 rfl (lv_at hl 1 rfl) ?_
  refine zcalli (va_runS (As := [.int (iI (a))]) (rest := [.ref (ad 0)]) ⟨hx, hb, hml, hown, hts⟩ (c_X2_isHour l D cy A ad _ (a) (by first | decide | (constructor <;> omega))) (va_cwS 1 hts gX2_setTemperature_X2_isHour rfl rfl rfl (by decide +kernel) ⟨(Nat.le_of_ble_eq_true rfl), (Nat.le_of_ble_eq_true rfl)⟩) (zPS hE hS) rfl rfl hl.1 rfl (lv_room (Nat.le_of_ble_eq_true rfl)) dX2_setTemperature_2 ⟨(Nat.le_of_ble_eq_true rfl), (Nat.le_of_ble_eq_true rfl)⟩) hS (fun z_2 H1 locs hz_2 hq hz1 hk1 hS => ?_)
  obtain ⟨hqe, hv_2⟩ := hq
  replace hqe := hqe.symm
  subst hqe
  refine zf_eq (tgt := 15) hx hb dX2_setTemperature_5 (by decide) (by first | decide | (constructor <;> omega)) (fun c_5 => ?_) (fun c_5 => ?_)
  · refine zi_const hx hb dX2_setTemperature_15 ?_
    refine lv_goto (tgt := 40) hx hb dX2_setTemperature_16 (by decide) ?_
    refine zput (C := RX2) (T := TX2) (N := 19) hx hb hts hinX2 tyX2 tyX2_ok nmX2 hown hE hS hw 0 mE_0 rfl 0 (by decide) (hts (.fieldLink RX2 66 "FormworkYardModel" "thrown" "I") (by decide +kernel)) rfl (ty := .int) (by decide +kernel) rfl rfl (Nat.le_of_ble_eq_true rfl) dX2_setTemperature_40 (fun H locs hw hS => ?_)
    have hw := hw.cong (mU_i 0 (by decide) (1))
    refine lv_iload_n hx hb dX2_setTemperature_43 rfl (lv_at hl 1 rfl) ?_
    refine lv_istore (lv' := [(4, .int (iI (a))), (0, .ref (ad 0)), (1, .int (iI (a))), (2, .int (iI (b))), (3, .int (iI (t)))]) hx hb dX2_setTemperature_44 hl (by decide) rfl (fun ls hl => ?_)
    refine lv_aload_n hx hb dX2_setTemperature_46 rfl (lv_at hl 1 rfl) ?_
    refine zget (C := RX2) (T := TX2) (N := 19) hx hb hts hinX2 hown hE hw 0 mE_0 rfl 0 (by decide) (hts (.fieldLink RX2 66 "FormworkYardModel" "thrown" "I") (by decide +kernel)) rfl dX2_setTemperature_47 ?_
    refine zi_top (fun v_47 hv_47 => ?_)
    simp [va_up] at hv_47
    subst hv_47
    refine zf_ne (tgt := 73) hx hb dX2_setTemperature_50 (by decide) (by first | decide | (constructor <;> omega)) (fun c_50 => ?_) (fun c_50 => ?_)
    · refine zvret hx hb hr hlocks hS (Nat.le_of_ble_eq_true rfl) (Nat.le_of_ble_eq_true rfl) ?_ dX2_setTemperature_73
      refine ⟨_, _, hw, by (repeat' split) <;> omega, ?_⟩
      exact Or.inl ⟨by decide, rfl⟩
    · exfalso; omega
  · refine lv_iload_n hx hb dX2_setTemperature_8 rfl (lv_at hl 2 rfl) ?_
    refine zcalli (va_runS (As := [.int (iI (b))]) (rest := [.ref (ad 0)]) ⟨hx, hb, hml, hown, hts⟩ (c_X2_isHour l D cy A ad _ (b) (by first | decide | (constructor <;> omega))) (va_cwS 1 hts gX2_setTemperature_X2_isHour rfl rfl rfl (by decide +kernel) ⟨(Nat.le_of_ble_eq_true rfl), (Nat.le_of_ble_eq_true rfl)⟩) (zPS hE hS) rfl rfl hl.1 rfl (lv_room (Nat.le_of_ble_eq_true rfl)) dX2_setTemperature_9 ⟨(Nat.le_of_ble_eq_true rfl), (Nat.le_of_ble_eq_true rfl)⟩) hS (fun z_9 H1 locs hz_9 hq hz1 hk1 hS => ?_)
    obtain ⟨hqe, hv_9⟩ := hq
    replace hqe := hqe.symm
    subst hqe
    refine zf_ne (tgt := 19) hx hb dX2_setTemperature_12 (by decide) (by first | decide | (constructor <;> omega)) (fun c_12 => ?_) (fun c_12 => ?_)
    · refine lv_iload_n hx hb dX2_setTemperature_19 rfl (lv_at hl 2 rfl) ?_
      refine lv_iload_n hx hb dX2_setTemperature_20 rfl (lv_at hl 1 rfl) ?_
      refine zc_lt (tgt := 39) hx hb dX2_setTemperature_21 (by decide) (by first | decide | (constructor <;> omega)) (by first | decide | (constructor <;> omega)) (fun c_21 => ?_) (fun c_21 => ?_)
      · refine zi_const hx hb dX2_setTemperature_39 ?_
        refine zput (C := RX2) (T := TX2) (N := 19) hx hb hts hinX2 tyX2 tyX2_ok nmX2 hown hE hS hw 0 mE_0 rfl 0 (by decide) (hts (.fieldLink RX2 66 "FormworkYardModel" "thrown" "I") (by decide +kernel)) rfl (ty := .int) (by decide +kernel) rfl rfl (Nat.le_of_ble_eq_true rfl) dX2_setTemperature_40 (fun H locs hw hS => ?_)
        have hw := hw.cong (mU_i 0 (by decide) (2))
        refine lv_iload_n hx hb dX2_setTemperature_43 rfl (lv_at hl 1 rfl) ?_
        refine lv_istore (lv' := [(4, .int (iI (a))), (0, .ref (ad 0)), (1, .int (iI (a))), (2, .int (iI (b))), (3, .int (iI (t)))]) hx hb dX2_setTemperature_44 hl (by decide) rfl (fun ls hl => ?_)
        refine lv_aload_n hx hb dX2_setTemperature_46 rfl (lv_at hl 1 rfl) ?_
        refine zget (C := RX2) (T := TX2) (N := 19) hx hb hts hinX2 hown hE hw 0 mE_0 rfl 0 (by decide) (hts (.fieldLink RX2 66 "FormworkYardModel" "thrown" "I") (by decide +kernel)) rfl dX2_setTemperature_47 ?_
        refine zi_top (fun v_47 hv_47 => ?_)
        simp [va_up] at hv_47
        subst hv_47
        refine zf_ne (tgt := 73) hx hb dX2_setTemperature_50 (by decide) (by first | decide | (constructor <;> omega)) (fun c_50 => ?_) (fun c_50 => ?_)
        · refine zvret hx hb hr hlocks hS (Nat.le_of_ble_eq_true rfl) (Nat.le_of_ble_eq_true rfl) ?_ dX2_setTemperature_73
          refine ⟨_, _, hw, by (repeat' split) <;> omega, ?_⟩
          exact Or.inl ⟨by decide, rfl⟩
        · exfalso; omega
      · refine lv_iload_n hx hb dX2_setTemperature_24 rfl (lv_at hl 3 rfl) ?_
        refine zi_bipush hx hb dX2_setTemperature_25 (by decide) ?_
        refine zi_bipush hx hb dX2_setTemperature_27 (by decide) ?_
        refine zcalli (va_runS (As := [.int (iI (t)), .int (iI ((-40))), .int (iI (50))]) (rest := [.ref (ad 0)]) ⟨hx, hb, hml, hown, hts⟩ (c_X2_in l D cy A ad _ (t) ((-40)) (50) (by first | decide | (constructor <;> omega)) (by first | decide | (constructor <;> omega)) (by first | decide | (constructor <;> omega))) (va_cwS 3 hts gX2_setTemperature_X2_in rfl rfl rfl (by decide +kernel) ⟨(Nat.le_of_ble_eq_true rfl), (Nat.le_of_ble_eq_true rfl)⟩) (zPS hE hS) rfl rfl hl.1 rfl (lv_room (Nat.le_of_ble_eq_true rfl)) dX2_setTemperature_29 ⟨(Nat.le_of_ble_eq_true rfl), (Nat.le_of_ble_eq_true rfl)⟩) hS (fun z_29 H1 locs hz_29 hq hz1 hk1 hS => ?_)
        obtain ⟨hqe, hv_29⟩ := hq
        replace hqe := hqe.symm
        subst hqe
        refine zf_eq (tgt := 39) hx hb dX2_setTemperature_32 (by decide) (by first | decide | (constructor <;> omega)) (fun c_32 => ?_) (fun c_32 => ?_)
        · refine zi_const hx hb dX2_setTemperature_39 ?_
          refine zput (C := RX2) (T := TX2) (N := 19) hx hb hts hinX2 tyX2 tyX2_ok nmX2 hown hE hS hw 0 mE_0 rfl 0 (by decide) (hts (.fieldLink RX2 66 "FormworkYardModel" "thrown" "I") (by decide +kernel)) rfl (ty := .int) (by decide +kernel) rfl rfl (Nat.le_of_ble_eq_true rfl) dX2_setTemperature_40 (fun H locs hw hS => ?_)
          have hw := hw.cong (mU_i 0 (by decide) (2))
          refine lv_iload_n hx hb dX2_setTemperature_43 rfl (lv_at hl 1 rfl) ?_
          refine lv_istore (lv' := [(4, .int (iI (a))), (0, .ref (ad 0)), (1, .int (iI (a))), (2, .int (iI (b))), (3, .int (iI (t)))]) hx hb dX2_setTemperature_44 hl (by decide) rfl (fun ls hl => ?_)
          refine lv_aload_n hx hb dX2_setTemperature_46 rfl (lv_at hl 1 rfl) ?_
          refine zget (C := RX2) (T := TX2) (N := 19) hx hb hts hinX2 hown hE hw 0 mE_0 rfl 0 (by decide) (hts (.fieldLink RX2 66 "FormworkYardModel" "thrown" "I") (by decide +kernel)) rfl dX2_setTemperature_47 ?_
          refine zi_top (fun v_47 hv_47 => ?_)
          simp [va_up] at hv_47
          subst hv_47
          refine zf_ne (tgt := 73) hx hb dX2_setTemperature_50 (by decide) (by first | decide | (constructor <;> omega)) (fun c_50 => ?_) (fun c_50 => ?_)
          · refine zvret hx hb hr hlocks hS (Nat.le_of_ble_eq_true rfl) (Nat.le_of_ble_eq_true rfl) ?_ dX2_setTemperature_73
            refine ⟨_, _, hw, by (repeat' split) <;> omega, ?_⟩
            exact Or.inl ⟨by decide, rfl⟩
          · exfalso; omega
        · refine zi_const hx hb dX2_setTemperature_35 ?_
          refine lv_goto (tgt := 40) hx hb dX2_setTemperature_36 (by decide) ?_
          refine zput (C := RX2) (T := TX2) (N := 19) hx hb hts hinX2 tyX2 tyX2_ok nmX2 hown hE hS hw 0 mE_0 rfl 0 (by decide) (hts (.fieldLink RX2 66 "FormworkYardModel" "thrown" "I") (by decide +kernel)) rfl (ty := .int) (by decide +kernel) rfl rfl (Nat.le_of_ble_eq_true rfl) dX2_setTemperature_40 (fun H locs hw hS => ?_)
          have hw := hw.cong (mU_i 0 (by decide) (0))
          refine lv_iload_n hx hb dX2_setTemperature_43 rfl (lv_at hl 1 rfl) ?_
          refine lv_istore (lv' := [(4, .int (iI (a))), (0, .ref (ad 0)), (1, .int (iI (a))), (2, .int (iI (b))), (3, .int (iI (t)))]) hx hb dX2_setTemperature_44 hl (by decide) rfl (fun ls hl => ?_)
          have loop_46 : ∀ (n : Nat) (h : Int) (mb : Nat → Nat → Int) (H : Heap) (locs : List Loc) (ls : Array Slot), (b + 1 - h).toNat < n → (a ≤ h ∧ h ≤ b + 1) → (∀ r, r ≠ 1 → mb r = ma r) → (mb 1 = setT (ma 1) a (h - 1) t) → zW D A ad (mE cy ad (va_up mi 0 (0)) mb) H → va_S A s.heap H locs → lv_has ls 5 [(4, .int (iI (h))), (0, .ref (ad 0)), (1, .int (iI (a))), (2, .int (iI (b))), (3, .int (iI (t)))] → W pg l en (headSpec wsX2_setTemperature ({ frames := 2, cells := 0, slots := 0, locals := 42 })).room s mt ([.ref (ad 0), .int (iI (a)), .int (iI (b)), .int (iI (t))] : List Value).toArray below meth c H locs 0 0 (MQ below (zQv (fun H1 => ∃ (c : Int) (mb : Nat → Nat → Int), zW D A ad (mE cy ad (va_up mi 0 c) mb) H1 ∧ c = (if (0 ≤ a ∧ a < 1000) ∧ (0 ≤ b ∧ b < 1000) then (if a ≤ b ∧ -40 ≤ t ∧ t ≤ 50 then 0 else 2) else 1) ∧ ((c ≠ 0 ∧ mb = ma) ∨ (c = 0 ∧ mb 1 = setT (ma 1) a b t ∧ ∀ r, r ≠ 1 → mb r = ma r))) A) ([.ref (ad 0), .int (iI (a)), .int (iI (b)), .int (iI (t))] : List Value).toArray s 0 0 A) (F0 mt 46 ls []) := by
            intro n
            induction n with
            | zero =>
              intro h mb H locs ls hm hi9 hR hT0
              exfalso; omega
            | succ n ih =>
              intro h mb H locs ls hm hi9 hR hT0 hw hS hl
              refine lv_aload_n hx hb dX2_setTemperature_46 rfl (lv_at hl 1 rfl) ?_
              refine zget (C := RX2) (T := TX2) (N := 19) hx hb hts hinX2 hown hE hw 0 mE_0 rfl 0 (by decide) (hts (.fieldLink RX2 66 "FormworkYardModel" "thrown" "I") (by decide +kernel)) rfl dX2_setTemperature_47 ?_
              refine zi_top (fun v_47 hv_47 => ?_)
              simp [va_up] at hv_47
              subst hv_47
              refine zf_ne (tgt := 73) hx hb dX2_setTemperature_50 (by decide) (by first | decide | (constructor <;> omega)) (fun c_50 => ?_) (fun c_50 => ?_)
              · exfalso; omega
              · refine lv_iload hx hb dX2_setTemperature_53 (lv_at hl 0 rfl) ?_
                refine lv_iload_n hx hb dX2_setTemperature_55 rfl (lv_at hl 3 rfl) ?_
                refine zc_gt (tgt := 73) hx hb dX2_setTemperature_56 (by decide) (by first | decide | (constructor <;> omega)) (by first | decide | (constructor <;> omega)) (fun c_56 => ?_) (fun c_56 => ?_)
                · refine zvret hx hb hr hlocks hS (Nat.le_of_ble_eq_true rfl) (Nat.le_of_ble_eq_true rfl) ?_ dX2_setTemperature_73
                  refine ⟨_, _, hw, by (repeat' split) <;> omega, ?_⟩
                  exact Or.inr ⟨rfl, by rw [hT0, show h - 1 = b by omega], hR⟩
                · refine lv_aload_n hx hb dX2_setTemperature_59 rfl (lv_at hl 1 rfl) ?_
                  refine zget (C := RX2) (T := TX2) (N := 19) hx hb hts hinX2 hown hE hw 0 mE_0 rfl 1 (by decide) (hts (.fieldLink RX2 7 "FormworkYardModel" "temperatures" "[I") (by decide +kernel)) rfl dX2_setTemperature_60 ?_
                  refine lv_iload hx hb dX2_setTemperature_63 (lv_at hl 0 rfl) ?_
                  refine lv_iload_n hx hb dX2_setTemperature_65 rfl (lv_at hl 4 rfl) ?_
                  refine ziast hx hb hE hS hw 1 (mE_a 1 (by decide) rfl) (h).toNat (by omega) (by omega) (by omega) dX2_setTemperature_66 (fun H locs hw hS => ?_)
                  have hw := hw.cong (mU_a 1 (by decide) rfl ((h).toNat) (t))
                  obtain ⟨ma_1, hma_1⟩ : ∃ z : Nat → Nat → Int, z = (va_up mb 1 (va_up (mb 1) ((h).toNat) (t))) := ⟨_, rfl⟩
                  rw [← hma_1] at hw
                  refine zi_iinc (lv' := [(4, .int (iI (h + 1))), (0, .ref (ad 0)), (1, .int (iI (a))), (2, .int (iI (b))), (3, .int (iI (t)))]) hx hb dX2_setTemperature_67 hl (k := 0) rfl (by decide) rfl (fun ls hl => ?_)
                  refine lv_goto (tgt := 46) hx hb dX2_setTemperature_70 (by decide) ?_
                  have hY := rU_s (k := 1) (p := h.toNat) rU_r hma_1
                  exact ih (h + 1) ma_1 _ _ _ (by omega) (by omega) (fun r hr => (rU_row hY.1 hr).trans (hR r hr)) (by rw [hma_1, up_same, hT0, setT_s _ _ _ _ (by omega) (by omega), show h + 1 - 1 = h by omega]) hw hS (lv_sub hl [0, 1, 2, 3, 4] rfl)
          exact loop_46 1001 a ma _ _ _ (by omega) (by omega) (fun _ _ => rfl) (by rw [setT_a]) hw hS (lv_sub hl [0, 1, 2, 3, 4] rfl)
    · refine zi_const hx hb dX2_setTemperature_15 ?_
      refine lv_goto (tgt := 40) hx hb dX2_setTemperature_16 (by decide) ?_
      refine zput (C := RX2) (T := TX2) (N := 19) hx hb hts hinX2 tyX2 tyX2_ok nmX2 hown hE hS hw 0 mE_0 rfl 0 (by decide) (hts (.fieldLink RX2 66 "FormworkYardModel" "thrown" "I") (by decide +kernel)) rfl (ty := .int) (by decide +kernel) rfl rfl (Nat.le_of_ble_eq_true rfl) dX2_setTemperature_40 (fun H locs hw hS => ?_)
      have hw := hw.cong (mU_i 0 (by decide) (1))
      refine lv_iload_n hx hb dX2_setTemperature_43 rfl (lv_at hl 1 rfl) ?_
      refine lv_istore (lv' := [(4, .int (iI (a))), (0, .ref (ad 0)), (1, .int (iI (a))), (2, .int (iI (b))), (3, .int (iI (t)))]) hx hb dX2_setTemperature_44 hl (by decide) rfl (fun ls hl => ?_)
      refine lv_aload_n hx hb dX2_setTemperature_46 rfl (lv_at hl 1 rfl) ?_
      refine zget (C := RX2) (T := TX2) (N := 19) hx hb hts hinX2 hown hE hw 0 mE_0 rfl 0 (by decide) (hts (.fieldLink RX2 66 "FormworkYardModel" "thrown" "I") (by decide +kernel)) rfl dX2_setTemperature_47 ?_
      refine zi_top (fun v_47 hv_47 => ?_)
      simp [va_up] at hv_47
      subst hv_47
      refine zf_ne (tgt := 73) hx hb dX2_setTemperature_50 (by decide) (by first | decide | (constructor <;> omega)) (fun c_50 => ?_) (fun c_50 => ?_)
      · refine zvret hx hb hr hlocks hS (Nat.le_of_ble_eq_true rfl) (Nat.le_of_ble_eq_true rfl) ?_ dX2_setTemperature_73
        refine ⟨_, _, hw, by (repeat' split) <;> omega, ?_⟩
        exact Or.inl ⟨by decide, rfl⟩
      · exfalso; omega
