set_option maxHeartbeats 4000000 in
set_option maxRecDepth 100000 in
theorem c_J13_bitCount_95d88 (l : Launch) (D : va_G) (cy : Nat → ClassId) (A : Nat → Prop) (ad : Nat → Nat) (H0 : Heap) (x : Int64) (f : Nat → Bool) (hM : isM x f) : Met l yJ13_bitCount_95d88 wsJ13_bitCount_95d88 ({ frames := 0, cells := 0, slots := 0, locals := 0 }) (zPc D cy A [.long (x)] H0) (zQi (fun z H1 => H1 = H0 ∧ z = sl (fun j => bI (f j)) 60) A) 0 0 A := by
  refine Met.ofW (cc := cJ13_bitCount_95d88) (maxL := 2) (ret := (some .int)) (by decide) rfl ?_
  intro pg en s mt args below meth c s₁ B hml hv
  obtain ⟨rfl, hH, hE⟩ := hv
  subst hH
  have hx := B.exec
  have hb := B.bytes
  have hr := B.returns
  have hts := atoms_spec (ws := wsJ13_bitCount_95d88) B.pre
  have hown : s.vm.findClass RJ13 = some mt.cls := findClass_of_methodNamed B.named
  have hlocks := B.notSynchronized
  have hS : va_S A s.heap s.heap [] := va_S.rf
  have hl := lv_entry ([.long (x)]) (n := 2) (Nat.le_of_ble_eq_true rfl)
  rw [lg_entry_eq]
  generalize (lg_sl ([.long (x)]) ++ List.replicate (2 - (lg_sl ([.long (x)])).length) Slot.unset).toArray = ls at hl ⊢
  have hl : lv_has ls 2 [(0, .long (x))] := hl
  have hcb := sl_b (f := fun j => bI (f j)) (a := 0) (b := 1) (n := 60) (fun i hi => by have := bI_b (f i); constructor <;> (try simp only []) <;> omega)
  refine lv_lload_n hx hb dJ13_bitCount_95d88_0 rfl (lv_at hl 0 rfl) ?_
  refine lv_lload_n hx hb dJ13_bitCount_95d88_1 rfl (lv_at hl 0 rfl) ?_
  refine zi_const hx hb dJ13_bitCount_95d88_2 ?_
  refine lv_lushr (v := lsr (x) 1) hx hb dJ13_bitCount_95d88_3 rfl ?_
  refine lv_ldc2 (v := 6148914691236517205) hx hb hown (hts (.constantLong RJ13 314 (6148914691236517205)) (by decide +kernel)) dJ13_bitCount_95d88_4 ?_
  refine lv_land hx hb dJ13_bitCount_95d88_7 ?_
  refine lv_lsub hx hb dJ13_bitCount_95d88_8 ?_
  obtain ⟨x_9, hx_9⟩ : ∃ z : Int64, z = x - ((lsr x 1) &&& 6148914691236517205) := ⟨_, rfl⟩
  rw [← hx_9]
  refine lv_lstore_n (lv' := [(0, .long (x_9))]) hx hb dJ13_bitCount_95d88_9 rfl hl (by decide) rfl (fun ls hl => ?_)
  refine lv_lload_n hx hb dJ13_bitCount_95d88_10 rfl (lv_at hl 0 rfl) ?_
  refine lv_ldc2 (v := 3689348814741910323) hx hb hown (hts (.constantLong RJ13 316 (3689348814741910323)) (by decide +kernel)) dJ13_bitCount_95d88_11 ?_
  refine lv_land hx hb dJ13_bitCount_95d88_14 ?_
  refine lv_lload_n hx hb dJ13_bitCount_95d88_15 rfl (lv_at hl 0 rfl) ?_
  refine zi_const hx hb dJ13_bitCount_95d88_16 ?_
  refine lv_lushr (v := lsr (x_9) 2) hx hb dJ13_bitCount_95d88_17 rfl ?_
  refine lv_ldc2 (v := 3689348814741910323) hx hb hown (hts (.constantLong RJ13 316 (3689348814741910323)) (by decide +kernel)) dJ13_bitCount_95d88_18 ?_
  refine lv_land hx hb dJ13_bitCount_95d88_21 ?_
  refine lv_ladd hx hb dJ13_bitCount_95d88_22 ?_
  obtain ⟨x_23, hx_23⟩ : ∃ z : Int64, z = (x_9 &&& 3689348814741910323) + ((lsr x_9 2) &&& 3689348814741910323) := ⟨_, rfl⟩
  rw [← hx_23]
  refine lv_lstore_n (lv' := [(0, .long (x_23))]) hx hb dJ13_bitCount_95d88_23 rfl hl (by decide) rfl (fun ls hl => ?_)
  refine lv_lload_n hx hb dJ13_bitCount_95d88_24 rfl (lv_at hl 0 rfl) ?_
  refine lv_lload_n hx hb dJ13_bitCount_95d88_25 rfl (lv_at hl 0 rfl) ?_
  refine zi_const hx hb dJ13_bitCount_95d88_26 ?_
  refine lv_lushr (v := lsr (x_23) 4) hx hb dJ13_bitCount_95d88_27 rfl ?_
  refine lv_ladd hx hb dJ13_bitCount_95d88_28 ?_
  refine lv_ldc2 (v := 1085102592571150095) hx hb hown (hts (.constantLong RJ13 318 (1085102592571150095)) (by decide +kernel)) dJ13_bitCount_95d88_29 ?_
  refine lv_land hx hb dJ13_bitCount_95d88_32 ?_
  obtain ⟨x_33, hx_33⟩ : ∃ z : Int64, z = (x_23 + (lsr x_23 4)) &&& 1085102592571150095 := ⟨_, rfl⟩
  rw [← hx_33]
  refine lv_lstore_n (lv' := [(0, .long (x_33))]) hx hb dJ13_bitCount_95d88_33 rfl hl (by decide) rfl (fun ls hl => ?_)
  refine lv_lload_n hx hb dJ13_bitCount_95d88_34 rfl (lv_at hl 0 rfl) ?_
  refine lv_lload_n hx hb dJ13_bitCount_95d88_35 rfl (lv_at hl 0 rfl) ?_
  refine zi_bipush hx hb dJ13_bitCount_95d88_36 (by decide) ?_
  refine lv_lushr (v := lsr (x_33) 8) hx hb dJ13_bitCount_95d88_38 rfl ?_
  refine lv_ladd hx hb dJ13_bitCount_95d88_39 ?_
  obtain ⟨x_40, hx_40⟩ : ∃ z : Int64, z = x_33 + (lsr x_33 8) := ⟨_, rfl⟩
  rw [← hx_40]
  refine lv_lstore_n (lv' := [(0, .long (x_40))]) hx hb dJ13_bitCount_95d88_40 rfl hl (by decide) rfl (fun ls hl => ?_)
  refine lv_lload_n hx hb dJ13_bitCount_95d88_41 rfl (lv_at hl 0 rfl) ?_
  refine lv_lload_n hx hb dJ13_bitCount_95d88_42 rfl (lv_at hl 0 rfl) ?_
  refine zi_bipush hx hb dJ13_bitCount_95d88_43 (by decide) ?_
  refine lv_lushr (v := lsr (x_40) 16) hx hb dJ13_bitCount_95d88_45 rfl ?_
  refine lv_ladd hx hb dJ13_bitCount_95d88_46 ?_
  obtain ⟨x_47, hx_47⟩ : ∃ z : Int64, z = x_40 + (lsr x_40 16) := ⟨_, rfl⟩
  rw [← hx_47]
  refine lv_lstore_n (lv' := [(0, .long (x_47))]) hx hb dJ13_bitCount_95d88_47 rfl hl (by decide) rfl (fun ls hl => ?_)
  refine lv_lload_n hx hb dJ13_bitCount_95d88_48 rfl (lv_at hl 0 rfl) ?_
  refine lv_lload_n hx hb dJ13_bitCount_95d88_49 rfl (lv_at hl 0 rfl) ?_
  refine zi_bipush hx hb dJ13_bitCount_95d88_50 (by decide) ?_
  refine lv_lushr (v := lsr (x_47) 32) hx hb dJ13_bitCount_95d88_52 rfl ?_
  refine lv_ladd hx hb dJ13_bitCount_95d88_53 ?_
  obtain ⟨x_54, hx_54⟩ : ∃ z : Int64, z = x_47 + (lsr x_47 32) := ⟨_, rfl⟩
  rw [← hx_54]
  refine lv_lstore_n (lv' := [(0, .long (x_54))]) hx hb dJ13_bitCount_95d88_54 rfl hl (by decide) rfl (fun ls hl => ?_)
  refine lv_lload_n hx hb dJ13_bitCount_95d88_55 rfl (lv_at hl 0 rfl) ?_
  refine lv_l2i hx hb dJ13_bitCount_95d88_56 rfl ?_
  refine zi_bipush hx hb dJ13_bitCount_95d88_57 (by decide) ?_
  refine lv_iand hx hb dJ13_bitCount_95d88_59 ?_
  rw [isM_bc hM hx_9 hx_23 hx_33 hx_40 hx_47 hx_54]
  refine ziret hx hb hr hlocks hS (Nat.le_of_ble_eq_true rfl) (Nat.le_of_ble_eq_true rfl) (by first | decide | (constructor <;> omega)) ?_ dJ13_bitCount_95d88_60
  exact ⟨rfl, rfl⟩

set_option maxHeartbeats 4000000 in
set_option maxRecDepth 100000 in
theorem c_X1_nextToServe (l : Launch) (D : va_G) (cy : Nat → ClassId) (A : Nat → Prop) (ad : Nat → Nat) (ya : Nat → Nat → Int) (yi : Nat → Int) (pr : Nat → Option PS) (H0 : Heap) (hw : zW D A ad (yE cy ad ya yi pr) H0) (hsp : ∀ i p, i < 10 → pr i = some p → (0 ≤ p.1 9 ∧ p.1 9 ≤ 900) ∧ (p.1 12 = 0 ∨ p.1 12 = 1)) : Met l yX1_nextToServe wsX1_nextToServe ({ frames := 0, cells := 0, slots := 0, locals := 0 }) (zPc D cy A [.ref (ad 0)] H0) (zQq (fun z H1 => H1 = H0 ∧ ((z = none ∧ ∀ j q, j < 10 → pr j = some q → q.1 12 ≠ 0) ∨ ∃ i0 p0, z = some (ad (10 + 3 * i0)) ∧ i0 < 10 ∧ pr i0 = some p0 ∧ p0.1 12 = 0 ∧ ∀ j q, j < 10 → pr j = some q → q.1 12 = 0 → p0.1 9 < q.1 9 ∨ (p0.1 9 = q.1 9 ∧ i0 ≤ j))) A) 0 0 A := by
  refine Met.ofW (cc := cX1_nextToServe) (maxL := 6) (ret := (some (.object "FormworkYard$Pour"))) (by decide) rfl ?_
  intro pg en s mt args below meth c s₁ B hml hv
  obtain ⟨rfl, hH, hE⟩ := hv
  subst hH
  have hx := B.exec
  have hb := B.bytes
  have hr := B.returns
  have hts := atoms_spec (ws := wsX1_nextToServe) B.pre
  have hown : s.vm.findClass RX1 = some mt.cls := findClass_of_methodNamed B.named
  have hlocks := B.notSynchronized
  have hinX0 : ∀ w ∈ u_ws RX0 TX0 13, w ∈ wsX1_nextToServe := by decide +kernel
  have hinX1 : ∀ w ∈ u_ws RX1 TX1 9, w ∈ wsX1_nextToServe := by decide +kernel
  have hS : va_S A s.heap s.heap [] := va_S.rf
  have hl := lv_entry ([.ref (ad 0)]) (n := 6) (Nat.le_of_ble_eq_true rfl)
  rw [lg_entry_eq]
  generalize (lg_sl ([.ref (ad 0)]) ++ List.replicate (6 - (lg_sl ([.ref (ad 0)])).length) Slot.unset).toArray = ls at hl ⊢
  have hl : lv_has ls 6 [(0, .ref (ad 0))] := hl
  refine lv_null hx hb dX1_nextToServe_0 ?_
  refine lv_astore_nN (lv' := [(1, .null), (0, .ref (ad 0))]) hx hb dX1_nextToServe_1 rfl hl (by decide) rfl (fun ls hl => ?_)
  refine lv_aload_n hx hb dX1_nextToServe_2 rfl (lv_at hl 1 rfl) ?_
  refine zget (C := RX1) (T := TX1) (N := 9) hx hb hts hinX1 hown hE hw 0 yE_0 rfl 4 (by decide) (hts (.fieldLink RX1 24 "FormworkYard" "pourList" "[LFormworkYard$Pour;") (by decide +kernel)) rfl dX1_nextToServe_3 ?_
  refine lv_astore_n (lv' := [(2, .ref (ad 5)), (1, .null), (0, .ref (ad 0))]) hx hb dX1_nextToServe_6 rfl hl (by decide) rfl (fun ls hl => ?_)
  refine lv_aload_n hx hb dX1_nextToServe_7 rfl (lv_at hl 0 rfl) ?_
  refine zalen hx hb hE hw 5 2 yE_5 rfl (z := 10) rfl dX1_nextToServe_8 ?_
  refine lv_istore_n (lv' := [(3, .int (iI (10))), (2, .ref (ad 5)), (1, .null), (0, .ref (ad 0))]) hx hb dX1_nextToServe_9 rfl hl (by decide) rfl (fun ls hl => ?_)
  refine zi_const hx hb dX1_nextToServe_10 ?_
  refine lv_istore (lv' := [(4, .int (iI (0))), (3, .int (iI (10))), (2, .ref (ad 5)), (1, .null), (0, .ref (ad 0))]) hx hb dX1_nextToServe_11 hl (by decide) rfl (fun ls hl => ?_)
  have loop_13 : ∀ (n : Nat) (i : Nat) (b : Option Nat) (locs : List Loc) (ls : Array Slot), 10 - i < n → (i ≤ 10) → ((b = none ∧ ∀ j q, j < i → pr j = some q → q.1 12 ≠ 0) ∨ ∃ i0 p0, b = some i0 ∧ i0 < i ∧ pr i0 = some p0 ∧ p0.1 12 = 0 ∧ ∀ j q, j < i → pr j = some q → q.1 12 = 0 → p0.1 9 < q.1 9 ∨ (p0.1 9 = q.1 9 ∧ i0 ≤ j)) → va_S A s.heap s.heap locs → lv_has ls 6 [(4, .int (iI ((i : Int)))), (3, .int (iI (10))), (2, .ref (ad 5)), (1, va_rf (b.map (fun k => ad (10 + 3 * k)))), (0, .ref (ad 0))] → W pg l en (headSpec wsX1_nextToServe ({ frames := 0, cells := 0, slots := 0, locals := 0 })).room s mt ([.ref (ad 0)] : List Value).toArray below meth c s.heap locs 0 0 (MQ below (zQq (fun z H1 => H1 = s.heap ∧ ((z = none ∧ ∀ j q, j < 10 → pr j = some q → q.1 12 ≠ 0) ∨ ∃ i0 p0, z = some (ad (10 + 3 * i0)) ∧ i0 < 10 ∧ pr i0 = some p0 ∧ p0.1 12 = 0 ∧ ∀ j q, j < 10 → pr j = some q → q.1 12 = 0 → p0.1 9 < q.1 9 ∨ (p0.1 9 = q.1 9 ∧ i0 ≤ j))) A) ([.ref (ad 0)] : List Value).toArray s 0 0 A) (F0 mt 13 ls []) := by
    intro n
    induction n with
    | zero =>
      intro i b locs ls hm hi hb9
      exfalso; omega
    | succ n ih =>
      intro i b locs ls hm hi hb9 hS hl
      rcases hb9 with ⟨rfl, hn9⟩ | ⟨i0, p0, rfl, hi0, hp0, hs0, hm0⟩
      · replace hl : lv_has ls 6 [(4, .int (iI ((i : Int)))), (3, .int (iI (10))), (2, .ref (ad 5)), (1, .null), (0, .ref (ad 0))] := hl
        refine lv_iload hx hb dX1_nextToServe_13 (lv_at hl 0 rfl) ?_
        refine lv_iload_n hx hb dX1_nextToServe_15 rfl (lv_at hl 1 rfl) ?_
        refine zc_ge (tgt := 63) hx hb dX1_nextToServe_16 (by decide) (by first | decide | (constructor <;> omega)) (by first | decide | (constructor <;> omega)) (fun c_16 => ?_) (fun c_16 => ?_)
        · refine lv_aload_nN hx hb dX1_nextToServe_63 rfl (lv_at hl 3 rfl) ?_
          refine zaret (z := none) hx hb hr hlocks hS (Nat.le_of_ble_eq_true rfl) (Nat.le_of_ble_eq_true rfl) ?_ dX1_nextToServe_64
          exact ⟨rfl, Or.inl ⟨rfl, fun j q hj => hn9 j q (by omega)⟩⟩
        · refine lv_aload_n hx hb dX1_nextToServe_19 rfl (lv_at hl 2 rfl) ?_
          refine lv_iload hx hb dX1_nextToServe_20 (lv_at hl 0 rfl) ?_
          refine zaald hx hb hE hw 5 yE_5 i rfl (by omega) (by omega) dX1_nextToServe_22 ?_
          rcases hp_22 : pr i with _ | p_22
          · rw [yR_0 hp_22]
            refine lv_astoreN (lv' := [(5, .null), (4, .int (iI ((i : Int)))), (3, .int (iI (10))), (2, .ref (ad 5)), (1, .null), (0, .ref (ad 0))]) hx hb dX1_nextToServe_23 hl (by decide) rfl (fun ls hl => ?_)
            refine lv_aloadN hx hb dX1_nextToServe_25 (lv_at hl 0 rfl) ?_
            refine lv_ifnullN (tgt := 57) hx hb dX1_nextToServe_27 (by decide) ?_
            refine zi_iinc (lv' := [(4, .int (iI ((i : Int) + 1))), (5, .null), (3, .int (iI (10))), (2, .ref (ad 5)), (1, .null), (0, .ref (ad 0))]) hx hb dX1_nextToServe_57 hl (k := 1) rfl (by decide) rfl (fun ls hl => ?_)
            refine lv_goto (tgt := 13) hx hb dX1_nextToServe_60 (by decide) ?_
            exact ih (i + 1) none _ _ (by omega) (by omega) (Or.inl ⟨rfl, fun j q hj hq => by by_cases hji : j = i; (subst hji; rw [hp_22] at hq; cases hq); exact hn9 j q (by omega) hq⟩) hS (lv_sub hl [0, 2, 3, 4, 5] rfl)
          · rw [yR_1 hp_22]
            obtain ⟨hq9, hq12⟩ := hsp i p_22 (by omega) hp_22
            refine lv_astore (lv' := [(5, .ref (ad (10 + 3 * i))), (4, .int (iI ((i : Int)))), (3, .int (iI (10))), (2, .ref (ad 5)), (1, .null), (0, .ref (ad 0))]) hx hb dX1_nextToServe_23 hl (by decide) rfl (fun ls hl => ?_)
            refine lv_aload hx hb dX1_nextToServe_25 (lv_at hl 0 rfl) ?_
            refine lv_ifnull hx hb dX1_nextToServe_27 ?_
            refine lv_aload hx hb dX1_nextToServe_30 (lv_at hl 0 rfl) ?_
            refine zgetN (own := RX1) (C := RX0) (T := TX0) (N := 13) (index := 202) (host := RX1) hx hb hts hinX0 hown hE hw (10 + 3 * i) (yE_p (by omega) hp_22) rfl 12 (by decide) (by decide +kernel) rfl dX1_nextToServe_32 ?_
            refine zf_ne (tgt := 57) hx hb dX1_nextToServe_35 (by decide) (by first | decide | (constructor <;> omega)) (fun c_35 => ?_) (fun c_35 => ?_)
            · refine zi_iinc (lv' := [(4, .int (iI ((i : Int) + 1))), (5, .ref (ad (10 + 3 * i))), (3, .int (iI (10))), (2, .ref (ad 5)), (1, .null), (0, .ref (ad 0))]) hx hb dX1_nextToServe_57 hl (k := 1) rfl (by decide) rfl (fun ls hl => ?_)
              refine lv_goto (tgt := 13) hx hb dX1_nextToServe_60 (by decide) ?_
              exact ih (i + 1) none _ _ (by omega) (by omega) (Or.inl ⟨rfl, fun j q hj hq => by by_cases hji : j = i; (subst hji; rw [hp_22] at hq; cases hq; exact (by omega)); exact hn9 j q (by omega) hq⟩) hS (lv_sub hl [0, 2, 3, 4, 5] rfl)
            · refine lv_aload_nN hx hb dX1_nextToServe_38 rfl (lv_at hl 4 rfl) ?_
              refine lv_ifnullN (tgt := 54) hx hb dX1_nextToServe_39 (by decide) ?_
              refine lv_aload hx hb dX1_nextToServe_54 (lv_at hl 0 rfl) ?_
              refine lv_astore_n (lv' := [(1, .ref (ad (10 + 3 * i))), (5, .ref (ad (10 + 3 * i))), (4, .int (iI ((i : Int)))), (3, .int (iI (10))), (2, .ref (ad 5)), (0, .ref (ad 0))]) hx hb dX1_nextToServe_56 rfl hl (by decide) rfl (fun ls hl => ?_)
              refine zi_iinc (lv' := [(4, .int (iI ((i : Int) + 1))), (1, .ref (ad (10 + 3 * i))), (5, .ref (ad (10 + 3 * i))), (3, .int (iI (10))), (2, .ref (ad 5)), (0, .ref (ad 0))]) hx hb dX1_nextToServe_57 hl (k := 2) rfl (by decide) rfl (fun ls hl => ?_)
              refine lv_goto (tgt := 13) hx hb dX1_nextToServe_60 (by decide) ?_
              exact ih (i + 1) (some i) _ _ (by omega) (by omega) (Or.inr ⟨i, p_22, rfl, by omega, hp_22, by omega, fun j q hj hq h12 => by by_cases hji : j = i; (subst hji; rw [hp_22] at hq; cases hq; exact Or.inr ⟨rfl, Nat.le_refl _⟩); exact absurd h12 (hn9 j q (by omega) hq)⟩) hS (lv_sub hl [0, 3, 4, 1, 5] rfl)
      · replace hl : lv_has ls 6 [(4, .int (iI ((i : Int)))), (3, .int (iI (10))), (2, .ref (ad 5)), (1, .ref (ad (10 + 3 * i0))), (0, .ref (ad 0))] := hl
        obtain ⟨hp9, hp12⟩ := hsp i0 p0 (by omega) hp0
        refine lv_iload hx hb dX1_nextToServe_13 (lv_at hl 0 rfl) ?_
        refine lv_iload_n hx hb dX1_nextToServe_15 rfl (lv_at hl 1 rfl) ?_
        refine zc_ge (tgt := 63) hx hb dX1_nextToServe_16 (by decide) (by first | decide | (constructor <;> omega)) (by first | decide | (constructor <;> omega)) (fun c_16 => ?_) (fun c_16 => ?_)
        · refine lv_aload_n hx hb dX1_nextToServe_63 rfl (lv_at hl 3 rfl) ?_
          refine zaret (z := some (ad (10 + 3 * i0))) hx hb hr hlocks hS (Nat.le_of_ble_eq_true rfl) (Nat.le_of_ble_eq_true rfl) ?_ dX1_nextToServe_64
          exact ⟨rfl, Or.inr ⟨i0, p0, rfl, by omega, hp0, hs0, fun j q hj => hm0 j q (by omega)⟩⟩
        · refine lv_aload_n hx hb dX1_nextToServe_19 rfl (lv_at hl 2 rfl) ?_
          refine lv_iload hx hb dX1_nextToServe_20 (lv_at hl 0 rfl) ?_
          refine zaald hx hb hE hw 5 yE_5 i rfl (by omega) (by omega) dX1_nextToServe_22 ?_
          rcases hp_22 : pr i with _ | p_22
          · rw [yR_0 hp_22]
            refine lv_astoreN (lv' := [(5, .null), (4, .int (iI ((i : Int)))), (3, .int (iI (10))), (2, .ref (ad 5)), (1, .ref (ad (10 + 3 * i0))), (0, .ref (ad 0))]) hx hb dX1_nextToServe_23 hl (by decide) rfl (fun ls hl => ?_)
            refine lv_aloadN hx hb dX1_nextToServe_25 (lv_at hl 0 rfl) ?_
            refine lv_ifnullN (tgt := 57) hx hb dX1_nextToServe_27 (by decide) ?_
            refine zi_iinc (lv' := [(4, .int (iI ((i : Int) + 1))), (5, .null), (3, .int (iI (10))), (2, .ref (ad 5)), (1, .ref (ad (10 + 3 * i0))), (0, .ref (ad 0))]) hx hb dX1_nextToServe_57 hl (k := 1) rfl (by decide) rfl (fun ls hl => ?_)
            refine lv_goto (tgt := 13) hx hb dX1_nextToServe_60 (by decide) ?_
            exact ih (i + 1) (some i0) _ _ (by omega) (by omega) (Or.inr ⟨i0, p0, rfl, by omega, hp0, hs0, (fun j q hj hq h12 => by by_cases hji : j = i; (subst hji; rw [hp_22] at hq; cases hq); exact hm0 j q (by omega) hq h12)⟩) hS (lv_sub hl [0, 2, 3, 4, 5] rfl)
          · rw [yR_1 hp_22]
            obtain ⟨hq9, hq12⟩ := hsp i p_22 (by omega) hp_22
            refine lv_astore (lv' := [(5, .ref (ad (10 + 3 * i))), (4, .int (iI ((i : Int)))), (3, .int (iI (10))), (2, .ref (ad 5)), (1, .ref (ad (10 + 3 * i0))), (0, .ref (ad 0))]) hx hb dX1_nextToServe_23 hl (by decide) rfl (fun ls hl => ?_)
            refine lv_aload hx hb dX1_nextToServe_25 (lv_at hl 0 rfl) ?_
            refine lv_ifnull hx hb dX1_nextToServe_27 ?_
            refine lv_aload hx hb dX1_nextToServe_30 (lv_at hl 0 rfl) ?_
            refine zgetN (own := RX1) (C := RX0) (T := TX0) (N := 13) (index := 202) (host := RX1) hx hb hts hinX0 hown hE hw (10 + 3 * i) (yE_p (by omega) hp_22) rfl 12 (by decide) (by decide +kernel) rfl dX1_nextToServe_32 ?_
            refine zf_ne (tgt := 57) hx hb dX1_nextToServe_35 (by decide) (by first | decide | (constructor <;> omega)) (fun c_35 => ?_) (fun c_35 => ?_)
            · refine zi_iinc (lv' := [(4, .int (iI ((i : Int) + 1))), (5, .ref (ad (10 + 3 * i))), (3, .int (iI (10))), (2, .ref (ad 5)), (1, .ref (ad (10 + 3 * i0))), (0, .ref (ad 0))]) hx hb dX1_nextToServe_57 hl (k := 1) rfl (by decide) rfl (fun ls hl => ?_)
              refine lv_goto (tgt := 13) hx hb dX1_nextToServe_60 (by decide) ?_
              exact ih (i + 1) (some i0) _ _ (by omega) (by omega) (Or.inr ⟨i0, p0, rfl, by omega, hp0, hs0, (fun j q hj hq h12 => by by_cases hji : j = i; (subst hji; rw [hp_22] at hq; cases hq; exact absurd h12 (by omega)); exact hm0 j q (by omega) hq h12)⟩) hS (lv_sub hl [0, 2, 3, 4, 5] rfl)
            · refine lv_aload_n hx hb dX1_nextToServe_38 rfl (lv_at hl 4 rfl) ?_
              refine lv_ifnull hx hb dX1_nextToServe_39 ?_
              refine lv_aload hx hb dX1_nextToServe_42 (lv_at hl 0 rfl) ?_
              refine zgetN (own := RX1) (C := RX0) (T := TX0) (N := 13) (index := 147) (host := RX1) hx hb hts hinX0 hown hE hw (10 + 3 * i) (yE_p (by omega) hp_22) rfl 9 (by decide) (by decide +kernel) rfl dX1_nextToServe_44 ?_
              refine lv_aload_n hx hb dX1_nextToServe_47 rfl (lv_at hl 4 rfl) ?_
              refine zgetN (own := RX1) (C := RX0) (T := TX0) (N := 13) (index := 147) (host := RX1) hx hb hts hinX0 hown hE hw (10 + 3 * i0) (yE_p (by omega) hp0) rfl 9 (by decide) (by decide +kernel) rfl dX1_nextToServe_48 ?_
              refine zc_ge (tgt := 57) hx hb dX1_nextToServe_51 (by decide) (by first | decide | (constructor <;> omega)) (by first | decide | (constructor <;> omega)) (fun c_51 => ?_) (fun c_51 => ?_)
              · refine zi_iinc (lv' := [(4, .int (iI ((i : Int) + 1))), (5, .ref (ad (10 + 3 * i))), (3, .int (iI (10))), (2, .ref (ad 5)), (1, .ref (ad (10 + 3 * i0))), (0, .ref (ad 0))]) hx hb dX1_nextToServe_57 hl (k := 1) rfl (by decide) rfl (fun ls hl => ?_)
                refine lv_goto (tgt := 13) hx hb dX1_nextToServe_60 (by decide) ?_
                exact ih (i + 1) (some i0) _ _ (by omega) (by omega) (Or.inr ⟨i0, p0, rfl, by omega, hp0, hs0, (fun j q hj hq h12 => by by_cases hji : j = i; (subst hji; rw [hp_22] at hq; cases hq; exact (by first | exact absurd h12 (by omega) | (by_cases hqq : p0.1 9 < p_22.1 9; exact Or.inl hqq; exact Or.inr ⟨by omega, by omega⟩))); exact hm0 j q (by omega) hq h12)⟩) hS (lv_sub hl [0, 2, 3, 4, 5] rfl)
              · refine lv_aload hx hb dX1_nextToServe_54 (lv_at hl 0 rfl) ?_
                refine lv_astore_n (lv' := [(1, .ref (ad (10 + 3 * i))), (5, .ref (ad (10 + 3 * i))), (4, .int (iI ((i : Int)))), (3, .int (iI (10))), (2, .ref (ad 5)), (0, .ref (ad 0))]) hx hb dX1_nextToServe_56 rfl hl (by decide) rfl (fun ls hl => ?_)
                refine zi_iinc (lv' := [(4, .int (iI ((i : Int) + 1))), (1, .ref (ad (10 + 3 * i))), (5, .ref (ad (10 + 3 * i))), (3, .int (iI (10))), (2, .ref (ad 5)), (0, .ref (ad 0))]) hx hb dX1_nextToServe_57 hl (k := 2) rfl (by decide) rfl (fun ls hl => ?_)
                refine lv_goto (tgt := 13) hx hb dX1_nextToServe_60 (by decide) ?_
                exact ih (i + 1) (some i) _ _ (by omega) (by omega) (Or.inr ⟨i, p_22, rfl, by omega, hp_22, by omega, fun j q hj hq h12 => by by_cases hji : j = i; (subst hji; rw [hp_22] at hq; cases hq; exact Or.inr ⟨rfl, Nat.le_refl _⟩); have h8 := hm0 j q (by omega) hq h12; exact Or.inl (by omega)⟩) hS (lv_sub hl [0, 3, 4, 1, 5] rfl)
  exact loop_13 11 0 none _ _ (by omega) (by omega) (Or.inl ⟨rfl, fun j q hj => absurd hj (Nat.not_lt_zero j)⟩) hS (lv_sub hl [0, 1, 2, 3, 4] rfl)

set_option maxHeartbeats 4000000 in
set_option maxRecDepth 100000 in
theorem c_X1_panelsBusyIn (l : Launch) (D : va_G) (cy : Nat → ClassId) (A : Nat → Prop) (ad : Nat → Nat) (ya : Nat → Nat → Int) (yi : Nat → Int) (pr : Nat → Option PS) (H0 : Heap) (g : Nat → Nat → Bool) (h : Int) (hw : zW D A ad (yE cy ad ya yi pr) H0) (h1 : zr h) (hgv : ∀ i p, i < 10 → pr i = some p → isM p.2.2.2 (g i) ∧ zr (p.1 9) ∧ zr (p.1 10)) : Met l yX1_panelsBusyIn wsX1_panelsBusyIn ({ frames := 1, cells := 0, slots := 0, locals := 21 }) (zPc D cy A [.ref (ad 0), .int (iI (h))] H0) (zQl (fun z H1 => H1 = H0 ∧ isM z (fun k => tkn (bsY pr) g h k 10)) A) 0 0 A := by
  refine Met.ofW (cc := cX1_panelsBusyIn) (maxL := 8) (ret := (some .long)) (by decide) rfl ?_
  intro pg en s mt args below meth c s₁ B hml hv
  obtain ⟨rfl, hH, hE⟩ := hv
  subst hH
  have hx := B.exec
  have hb := B.bytes
  have hr := B.returns
  have hts := atoms_spec (ws := wsX1_panelsBusyIn) B.pre
  have hown : s.vm.findClass RX1 = some mt.cls := findClass_of_methodNamed B.named
  have hlocks := B.notSynchronized
  have hinX0 : ∀ w ∈ u_ws RX0 TX0 13, w ∈ wsX1_panelsBusyIn := by decide +kernel
  have hinX1 : ∀ w ∈ u_ws RX1 TX1 9, w ∈ wsX1_panelsBusyIn := by decide +kernel
  have hS : va_S A s.heap s.heap [] := va_S.rf
  have hl := lv_entry ([.ref (ad 0), .int (iI (h))]) (n := 8) (Nat.le_of_ble_eq_true rfl)
  rw [lg_entry_eq]
  generalize (lg_sl ([.ref (ad 0), .int (iI (h))]) ++ List.replicate (8 - (lg_sl ([.ref (ad 0), .int (iI (h))])).length) Slot.unset).toArray = ls at hl ⊢
  have hl : lv_has ls 8 [(0, .ref (ad 0)), (1, .int (iI (h)))] := hl
  refine lv_lconst (v := 0) hx hb dX1_panelsBusyIn_0 (by decide) ?_
  refine lv_lstore_n (lv' := [(2, .long (0)), (0, .ref (ad 0)), (1, .int (iI (h)))]) hx hb dX1_panelsBusyIn_1 rfl hl (by decide) rfl (fun ls hl => ?_)
  refine lv_aload_n hx hb dX1_panelsBusyIn_2 rfl (lv_at hl 1 rfl) ?_
  refine zget (C := RX1) (T := TX1) (N := 9) hx hb hts hinX1 hown hE hw 0 yE_0 rfl 4 (by decide) (hts (.fieldLink RX1 24 "FormworkYard" "pourList" "[LFormworkYard$Pour;") (by decide +kernel)) rfl dX1_panelsBusyIn_3 ?_
  refine lv_astore (lv' := [(4, .ref (ad 5)), (2, .long (0)), (0, .ref (ad 0)), (1, .int (iI (h)))]) hx hb dX1_panelsBusyIn_6 hl (by decide) rfl (fun ls hl => ?_)
  refine lv_aload hx hb dX1_panelsBusyIn_8 (lv_at hl 0 rfl) ?_
  refine zalen hx hb hE hw 5 2 yE_5 rfl (z := 10) rfl dX1_panelsBusyIn_10 ?_
  refine lv_istore (lv' := [(5, .int (iI (10))), (4, .ref (ad 5)), (2, .long (0)), (0, .ref (ad 0)), (1, .int (iI (h)))]) hx hb dX1_panelsBusyIn_11 hl (by decide) rfl (fun ls hl => ?_)
  refine zi_const hx hb dX1_panelsBusyIn_13 ?_
  refine lv_istore (lv' := [(6, .int (iI (0))), (5, .int (iI (10))), (4, .ref (ad 5)), (2, .long (0)), (0, .ref (ad 0)), (1, .int (iI (h)))]) hx hb dX1_panelsBusyIn_14 hl (by decide) rfl (fun ls hl => ?_)
  have loop_16 : ∀ (n : Nat) (i : Nat) (w : Int64) (locs : List Loc) (ls : Array Slot), 10 - i < n → (i ≤ 10) → (isM w (fun k => tkn (bsY pr) g h k i)) → va_S A s.heap s.heap locs → lv_has ls 8 [(6, .int (iI ((i : Int)))), (5, .int (iI (10))), (4, .ref (ad 5)), (2, .long (w)), (0, .ref (ad 0)), (1, .int (iI (h)))] → W pg l en (headSpec wsX1_panelsBusyIn ({ frames := 1, cells := 0, slots := 0, locals := 21 })).room s mt ([.ref (ad 0), .int (iI (h))] : List Value).toArray below meth c s.heap locs 0 0 (MQ below (zQl (fun z H1 => H1 = s.heap ∧ isM z (fun k => tkn (bsY pr) g h k 10)) A) ([.ref (ad 0), .int (iI (h))] : List Value).toArray s 0 0 A) (F0 mt 16 ls []) := by
    intro n
    induction n with
    | zero =>
      intro i w locs ls hm hi hk
      exfalso; omega
    | succ n ih =>
      intro i w locs ls hm hi hk hS hl
      refine lv_iload hx hb dX1_panelsBusyIn_16 (lv_at hl 0 rfl) ?_
      refine lv_iload hx hb dX1_panelsBusyIn_18 (lv_at hl 1 rfl) ?_
      refine zc_ge (tgt := 58) hx hb dX1_panelsBusyIn_20 (by decide) (by first | decide | (constructor <;> omega)) (by first | decide | (constructor <;> omega)) (fun c_20 => ?_) (fun c_20 => ?_)
      · refine lv_lload_n hx hb dX1_panelsBusyIn_58 rfl (lv_at hl 3 rfl) ?_
        refine zlret hx hb hr hlocks hS (Nat.le_of_ble_eq_true rfl) (Nat.le_of_ble_eq_true rfl) ?_ dX1_panelsBusyIn_59
        exact ⟨rfl, by rw [show (10 : Nat) = i by omega]; exact hk⟩
      · refine lv_aload hx hb dX1_panelsBusyIn_23 (lv_at hl 2 rfl) ?_
        refine lv_iload hx hb dX1_panelsBusyIn_25 (lv_at hl 0 rfl) ?_
        refine zaald hx hb hE hw 5 yE_5 i rfl (by omega) (by omega) dX1_panelsBusyIn_27 ?_
        rcases hp_27 : pr i with _ | p_27
        · rw [yR_0 hp_27]
          refine lv_astoreN (lv' := [(7, .null), (6, .int (iI ((i : Int)))), (5, .int (iI (10))), (4, .ref (ad 5)), (2, .long (w)), (0, .ref (ad 0)), (1, .int (iI (h)))]) hx hb dX1_panelsBusyIn_28 hl (by decide) rfl (fun ls hl => ?_)
          refine lv_aloadN hx hb dX1_panelsBusyIn_30 (lv_at hl 0 rfl) ?_
          refine lv_ifnullN (tgt := 52) hx hb dX1_panelsBusyIn_32 (by decide) ?_
          refine zi_iinc (lv' := [(6, .int (iI ((i : Int) + 1))), (7, .null), (5, .int (iI (10))), (4, .ref (ad 5)), (2, .long (w)), (0, .ref (ad 0)), (1, .int (iI (h)))]) hx hb dX1_panelsBusyIn_52 hl (k := 1) rfl (by decide) rfl (fun ls hl => ?_)
          refine lv_goto (tgt := 16) hx hb dX1_panelsBusyIn_55 (by decide) ?_
          exact ih (i + 1) (w) _ _ (by omega) (by omega) (tkM_n (bsY_0 hp_27) hk) hS (lv_sub hl [0, 2, 3, 4, 5, 6] rfl)
        · rw [yR_1 hp_27]
          refine lv_astore (lv' := [(7, .ref (ad (10 + 3 * i))), (6, .int (iI ((i : Int)))), (5, .int (iI (10))), (4, .ref (ad 5)), (2, .long (w)), (0, .ref (ad 0)), (1, .int (iI (h)))]) hx hb dX1_panelsBusyIn_28 hl (by decide) rfl (fun ls hl => ?_)
          refine lv_aload hx hb dX1_panelsBusyIn_30 (lv_at hl 0 rfl) ?_
          refine lv_ifnull hx hb dX1_panelsBusyIn_32 ?_
          refine lv_aload hx hb dX1_panelsBusyIn_35 (lv_at hl 0 rfl) ?_
          refine lv_iload_n hx hb dX1_panelsBusyIn_37 rfl (lv_at hl 6 rfl) ?_
          refine zcalli (va_runVN (As := [.int (iI (h))]) (rest := []) ⟨hx, hb, hml, hown, hts⟩ (c_X0_isBusy l D cy A ad ya yi pr _ i p_27 (h) hw (by omega) hp_27 (by first | decide | (constructor <;> omega)) (hgv i p_27 (by omega) hp_27).2.1 (hgv i p_27 (by omega) hp_27).2.2) ⟨va_cnB 1 hts gX1_panelsBusyIn_X0_isBusy_n184 rfl rfl rfl (hE.2.1 (.methodLinkNest RX1 184 yX0_isBusy RX1) (by decide +kernel)) (hts (.initialized RX0) (by decide +kernel)) (by decide +kernel) ⟨(Nat.le_of_ble_eq_true rfl), (Nat.le_of_ble_eq_true rfl)⟩, hts (.instanceMethod yX0_isBusy) (by decide +kernel), hts (.selects RX0 yX0_isBusy yX0_isBusy) (by decide +kernel)⟩ (zPV hE hS hw (ci := 0) (k0 := 10 + 3 * i) rfl (yE_p (by omega) hp_27)) rfl rfl hl.1 rfl (lv_room (Nat.le_of_ble_eq_true rfl)) dX1_panelsBusyIn_38 ⟨(Nat.le_of_ble_eq_true rfl), (Nat.le_of_ble_eq_true rfl)⟩) hS (fun z_38 H1 locs hz_38 hq hz1 hk1 hS => ?_)
          obtain ⟨hqe, hv_38⟩ := hq
          replace hqe := hqe.symm
          subst hqe
          refine zf_eq (tgt := 52) hx hb dX1_panelsBusyIn_41 (by decide) (by first | decide | (constructor <;> omega)) (fun c_41 => ?_) (fun c_41 => ?_)
          · refine zi_iinc (lv' := [(6, .int (iI ((i : Int) + 1))), (7, .ref (ad (10 + 3 * i))), (5, .int (iI (10))), (4, .ref (ad 5)), (2, .long (w)), (0, .ref (ad 0)), (1, .int (iI (h)))]) hx hb dX1_panelsBusyIn_52 hl (k := 1) rfl (by decide) rfl (fun ls hl => ?_)
            refine lv_goto (tgt := 16) hx hb dX1_panelsBusyIn_55 (by decide) ?_
            exact ih (i + 1) (w) _ _ (by omega) (by omega) (tkM_n (by cases hbq : bsY pr i h with | false => rfl | true => have := (bsY_1 hp_27).mp hbq; omega) hk) hS (lv_sub hl [0, 2, 3, 4, 5, 6] rfl)
          · refine lv_lload_n hx hb dX1_panelsBusyIn_44 rfl (lv_at hl 4 rfl) ?_
            refine lv_aload hx hb dX1_panelsBusyIn_45 (lv_at hl 0 rfl) ?_
            refine zgetN (own := RX1) (C := RX0) (T := TX0) (N := 13) (index := 171) (host := RX1) hx hb hts hinX0 hown hE hw (10 + 3 * i) (yE_p (by omega) hp_27) rfl 11 (by decide) (by decide +kernel) rfl dX1_panelsBusyIn_47 ?_
            refine lv_lor hx hb dX1_panelsBusyIn_50 ?_
            refine lv_lstore_n (lv' := [(2, .long (w ||| (p_27.2.2.2))), (7, .ref (ad (10 + 3 * i))), (6, .int (iI ((i : Int)))), (5, .int (iI (10))), (4, .ref (ad 5)), (0, .ref (ad 0)), (1, .int (iI (h)))]) hx hb dX1_panelsBusyIn_51 rfl hl (by decide) rfl (fun ls hl => ?_)
            refine zi_iinc (lv' := [(6, .int (iI ((i : Int) + 1))), (2, .long (w ||| (p_27.2.2.2))), (7, .ref (ad (10 + 3 * i))), (5, .int (iI (10))), (4, .ref (ad 5)), (0, .ref (ad 0)), (1, .int (iI (h)))]) hx hb dX1_panelsBusyIn_52 hl (k := 2) rfl (by decide) rfl (fun ls hl => ?_)
            refine lv_goto (tgt := 16) hx hb dX1_panelsBusyIn_55 (by decide) ?_
            exact ih (i + 1) (w ||| (p_27.2.2.2)) _ _ (by omega) (by omega) (tkM_y ((bsY_1 hp_27).mpr (by omega)) hk (hgv i p_27 (by omega) hp_27).1) hS (lv_sub hl [0, 3, 4, 1, 5, 6] rfl)
  exact loop_16 11 0 0 _ _ (by omega) (by omega) isM_0 hS (lv_sub hl [0, 1, 2, 3, 4, 5] rfl)

set_option maxHeartbeats 4000000 in
set_option maxRecDepth 100000 in
theorem c_X1_lowestPanels (l : Launch) (D : va_G) (cy : Nat → ClassId) (A : Nat → Prop) (ad : Nat → Nat) (ya : Nat → Nat → Int) (yi : Nat → Int) (pr : Nat → Option PS) (H0 : Heap) (bz : Nat → Bool) (b : Int64) (m : Int) (hw : zW D A ad (yE cy ad ya yi pr) H0) (h1 : isM b bz) (h2 : 0 ≤ m ∧ m ≤ 30) (hg : yB yi) : Met l yX1_lowestPanels wsX1_lowestPanels ({ frames := 0, cells := 0, slots := 0, locals := 0 }) (zPc D cy A [.ref (ad 0), .long (b), .int (iI (m))] H0) (zQl (fun z H1 => H1 = H0 ∧ isM z (lo bz m (yi 5))) A) 0 0 A := by
  refine Met.ofW (cc := cX1_lowestPanels) (maxL := 10) (ret := (some .long)) (by decide) rfl ?_
  intro pg en s mt args below meth c s₁ B hml hv
  obtain ⟨rfl, hH, hE⟩ := hv
  subst hH
  have hx := B.exec
  have hb := B.bytes
  have hr := B.returns
  have hts := atoms_spec (ws := wsX1_lowestPanels) B.pre
  have hown : s.vm.findClass RX1 = some mt.cls := findClass_of_methodNamed B.named
  have hlocks := B.notSynchronized
  have hinX1 : ∀ w ∈ u_ws RX1 TX1 9, w ∈ wsX1_lowestPanels := by decide +kernel
  have hS : va_S A s.heap s.heap [] := va_S.rf
  have hl := lv_entry ([.ref (ad 0), .long (b), .int (iI (m))]) (n := 10) (Nat.le_of_ble_eq_true rfl)
  rw [lg_entry_eq]
  generalize (lg_sl ([.ref (ad 0), .long (b), .int (iI (m))]) ++ List.replicate (10 - (lg_sl ([.ref (ad 0), .long (b), .int (iI (m))])).length) Slot.unset).toArray = ls at hl ⊢
  have hl : lv_has ls 10 [(0, .ref (ad 0)), (1, .long (b)), (3, .int (iI (m)))] := hl
  obtain ⟨g1, g2, g3, g4⟩ := id hg
  refine lv_lconst (v := 0) hx hb dX1_lowestPanels_0 (by decide) ?_
  refine lv_lstore (lv' := [(4, .long (0)), (0, .ref (ad 0)), (1, .long (b)), (3, .int (iI (m)))]) hx hb dX1_lowestPanels_1 hl (by decide) rfl (fun ls hl => ?_)
  refine zi_const hx hb dX1_lowestPanels_3 ?_
  refine lv_istore (lv' := [(6, .int (iI (0))), (4, .long (0)), (0, .ref (ad 0)), (1, .long (b)), (3, .int (iI (m)))]) hx hb dX1_lowestPanels_4 hl (by decide) rfl (fun ls hl => ?_)
  refine zi_const hx hb dX1_lowestPanels_6 ?_
  refine lv_istore (lv' := [(7, .int (iI (0))), (6, .int (iI (0))), (4, .long (0)), (0, .ref (ad 0)), (1, .long (b)), (3, .int (iI (m)))]) hx hb dX1_lowestPanels_7 hl (by decide) rfl (fun ls hl => ?_)
  have loop_9 : ∀ (n : Nat) (x : Nat) (w : Int64) (locs : List Loc) (ls : Array Slot), 60 - x < n → ((x : Int) ≤ yi 5) → (isM w (lo bz m (x : Int))) → va_S A s.heap s.heap locs → lv_has ls 10 [(7, .int (iI ((x : Int)))), (6, .int (iI (lc bz m x))), (4, .long (w)), (0, .ref (ad 0)), (1, .long (b)), (3, .int (iI (m)))] → W pg l en (headSpec wsX1_lowestPanels ({ frames := 0, cells := 0, slots := 0, locals := 0 })).room s mt ([.ref (ad 0), .long (b), .int (iI (m))] : List Value).toArray below meth c s.heap locs 0 0 (MQ below (zQl (fun z H1 => H1 = s.heap ∧ isM z (lo bz m (yi 5))) A) ([.ref (ad 0), .long (b), .int (iI (m))] : List Value).toArray s 0 0 A) (F0 mt 9 ls []) := by
    intro n
    induction n with
    | zero =>
      intro x w locs ls hm hi hk
      exfalso; omega
    | succ n ih =>
      intro x w locs ls hm hi hk hS hl
      have hlb := lc_b (bz := bz) (nd := m) h2.1 x
      refine lv_iload hx hb dX1_lowestPanels_9 (lv_at hl 0 rfl) ?_
      refine lv_aload_n hx hb dX1_lowestPanels_11 rfl (lv_at hl 3 rfl) ?_
      refine zget (C := RX1) (T := TX1) (N := 9) hx hb hts hinX1 hown hE hw 0 yE_0 rfl 5 (by decide) (hts (.fieldLink RX1 28 "FormworkYard" "yardPanels" "I") (by decide +kernel)) rfl dX1_lowestPanels_12 ?_
      refine zc_ge (tgt := 55) hx hb dX1_lowestPanels_15 (by decide) (by first | decide | (constructor <;> omega)) (by first | decide | (constructor <;> omega)) (fun c_15 => ?_) (fun c_15 => ?_)
      · refine lv_lload hx hb dX1_lowestPanels_55 (lv_at hl 2 rfl) ?_
        refine zlret hx hb hr hlocks hS (Nat.le_of_ble_eq_true rfl) (Nat.le_of_ble_eq_true rfl) ?_ dX1_lowestPanels_57
        exact ⟨rfl, loM_e (by omega) (by omega) hk⟩
      · refine lv_iload hx hb dX1_lowestPanels_18 (lv_at hl 1 rfl) ?_
        refine lv_iload_n hx hb dX1_lowestPanels_20 rfl (lv_at hl 5 rfl) ?_
        refine zc_ge (tgt := 55) hx hb dX1_lowestPanels_21 (by decide) (by first | decide | (constructor <;> omega)) (by first | decide | (constructor <;> omega)) (fun c_21 => ?_) (fun c_21 => ?_)
        · refine lv_lload hx hb dX1_lowestPanels_55 (lv_at hl 2 rfl) ?_
          refine zlret hx hb hr hlocks hS (Nat.le_of_ble_eq_true rfl) (Nat.le_of_ble_eq_true rfl) ?_ dX1_lowestPanels_57
          exact ⟨rfl, loM_e (by omega) (by omega) hk⟩
        · refine lv_lconst (v := 1) hx hb dX1_lowestPanels_24 (by decide) ?_
          refine lv_iload hx hb dX1_lowestPanels_25 (lv_at hl 0 rfl) ?_
          refine lv_lshl (v := lN (2 ^ x)) hx hb dX1_lowestPanels_27 (zshl (by omega)) ?_
          refine lv_lstore (lv' := [(8, .long (lN (2 ^ x))), (7, .int (iI ((x : Int)))), (6, .int (iI (lc bz m x))), (4, .long (w)), (0, .ref (ad 0)), (1, .long (b)), (3, .int (iI (m)))]) hx hb dX1_lowestPanels_28 hl (by decide) rfl (fun ls hl => ?_)
          refine lv_lload_n hx hb dX1_lowestPanels_30 rfl (lv_at hl 5 rfl) ?_
          refine lv_lload hx hb dX1_lowestPanels_31 (lv_at hl 0 rfl) ?_
          refine lv_land hx hb dX1_lowestPanels_33 ?_
          refine lv_lconst (v := 0) hx hb dX1_lowestPanels_34 (by decide) ?_
          refine W.lcmp hx hb dX1_lowestPanels_35 ?_
          obtain ⟨k_35, hk_350, hk_35⟩ := zlcmp (b &&& (lN (2 ^ x))) (0)
          rw [hk_35]
          have hA9 := isM_and h1 (k := x) (by omega)
          refine zf_ne (tgt := 49) hx hb dX1_lowestPanels_36 (by decide) (by first | decide | (constructor <;> omega)) (fun c_36 => ?_) (fun c_36 => ?_)
          · have hbx : bz x = true := by cases hbx : bz x with | true => rfl | false => have := hA9.mpr hbx; rcases hk_350 with h9 | h9; omega; exact absurd this h9.2
            refine zi_iinc (lv' := [(7, .int (iI ((x : Int) + 1))), (8, .long (lN (2 ^ x))), (6, .int (iI (lc bz m x))), (4, .long (w)), (0, .ref (ad 0)), (1, .long (b)), (3, .int (iI (m)))]) hx hb dX1_lowestPanels_49 hl (k := 1) rfl (by decide) rfl (fun ls hl => ?_)
            refine lv_goto (tgt := 9) hx hb dX1_lowestPanels_52 (by decide) ?_
            replace hl : lv_has ls 10 [(7, .int (iI ((x : Int) + 1))), (8, .long (lN (2 ^ x))), (6, .int (iI (lc bz m x))), (4, .long (w)), (0, .ref (ad 0)), (1, .long (b)), (3, .int (iI (m)))] := hl
            rw [show lc bz m x = lc bz m (x + 1) by simp only [lc]; rw [if_neg (by rw [hbx]; simp)]; omega] at hl
            exact ih (x + 1) w _ _ (by omega) (by omega) (loM_n hbx hk) hS (lv_sub hl [0, 2, 3, 4, 5, 6] rfl)
          · have hbx : bz x = false := hA9.mp (by rcases hk_350 with h9 | h9; exact h9.2; omega)
            refine lv_lload hx hb dX1_lowestPanels_39 (lv_at hl 3 rfl) ?_
            refine lv_lload hx hb dX1_lowestPanels_41 (lv_at hl 0 rfl) ?_
            refine lv_lor hx hb dX1_lowestPanels_43 ?_
            refine lv_lstore (lv' := [(4, .long (w ||| (lN (2 ^ x)))), (8, .long (lN (2 ^ x))), (7, .int (iI ((x : Int)))), (6, .int (iI (lc bz m x))), (0, .ref (ad 0)), (1, .long (b)), (3, .int (iI (m)))]) hx hb dX1_lowestPanels_44 hl (by decide) rfl (fun ls hl => ?_)
            refine zi_iinc (lv' := [(6, .int (iI (lc bz m x + 1))), (4, .long (w ||| (lN (2 ^ x)))), (8, .long (lN (2 ^ x))), (7, .int (iI ((x : Int)))), (0, .ref (ad 0)), (1, .long (b)), (3, .int (iI (m)))]) hx hb dX1_lowestPanels_46 hl (k := 3) rfl (by decide) rfl (fun ls hl => ?_)
            refine zi_iinc (lv' := [(7, .int (iI ((x : Int) + 1))), (6, .int (iI (lc bz m x + 1))), (4, .long (w ||| (lN (2 ^ x)))), (8, .long (lN (2 ^ x))), (0, .ref (ad 0)), (1, .long (b)), (3, .int (iI (m)))]) hx hb dX1_lowestPanels_49 hl (k := 3) rfl (by decide) rfl (fun ls hl => ?_)
            refine lv_goto (tgt := 9) hx hb dX1_lowestPanels_52 (by decide) ?_
            replace hl : lv_has ls 10 [(7, .int (iI ((x : Int) + 1))), (6, .int (iI (lc bz m x + 1))), (4, .long (w ||| (lN (2 ^ x)))), (8, .long (lN (2 ^ x))), (0, .ref (ad 0)), (1, .long (b)), (3, .int (iI (m)))] := hl
            rw [show lc bz m x + 1 = lc bz m (x + 1) by simp only [lc]; rw [if_pos ⟨hbx, by omega⟩]] at hl
            exact ih (x + 1) (w ||| lN (2 ^ x)) _ _ (by omega) (by omega) (loM_y (by omega) hbx (by omega) hk) hS (lv_sub hl [0, 1, 2, 4, 5, 6] rfl)
  exact loop_9 61 0 0 _ _ (by omega) (by omega) loM_0 hS (lv_sub hl [0, 1, 2, 3, 4, 5] rfl)
