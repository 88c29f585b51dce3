theorem zTk {mi : Nat → Int} {ma mw mc : Nat → Nat → Int} {i p x : Nat} {f : Nat → Bool} (haU : aU ma mw) (haV : ∀ q, q < 10 → ma 7 q = 1 → wV mi ma q mw) (hR : ∀ r, r ≠ 18 → mc r = mw r) (hcc : hC (FM mi ma (10 * i + p)) p f x mc) (hx : x < 60) (hF0 : ∀ k, FM mi ma (10 * i + p) p k = false) (hp : p < 10) : (∃ q, q < 10 ∧ mc 18 (60 * q + x) = 1 ∧ mc 7 q = 1 ∧ mc 15 q ≤ (i : Int) ∧ (i : Int) < mc 17 q) ↔ tkn (bsM mi ma) (FM mi ma (10 * i + p)) i x 10 = true := by
  rw [tkn_iff]
  have e7 : mc 7 = ma 7 := (hR 7 (by decide)).trans (aU_row haU (by decide))
  have key : ∀ q, q < 10 → (mc 18 (60 * q + x) = 1 ∧ mc 7 q = 1 ∧ mc 15 q ≤ (i : Int) ∧ (i : Int) < mc 17 q ↔ FM mi ma (10 * i + p) q x = true ∧ bsM mi ma q i = true) := by
    intro q hq
    unfold bsM
    rw [decide_eq_true_eq, e7, hR 15 (by decide), hR 17 (by decide)]
    by_cases hqp : q = p
    · subst hqp
      rw [hcc.2.2 x hx (Nat.le_refl x), hF0]
      constructor
      · rintro ⟨h, -⟩; omega
      · rintro ⟨h, -⟩; cases h
    · rw [hcc.1 q hq hqp x hx]
      have hb := bI_b (FM mi ma (10 * i + p) q x)
      constructor
      · rintro ⟨h1, h2, h3, h4⟩
        obtain ⟨v1, v2, v3⟩ := haV q hq h2
        rw [v1] at h3
        rw [v3] at h4
        exact ⟨by rcases hb with h | h; exact h.2; omega, h2, h3, h4⟩
      · rintro ⟨h1, h2, h3, h4⟩
        obtain ⟨v1, v2, v3⟩ := haV q hq h2
        refine ⟨by rw [h1]; rfl, h2, ?_, ?_⟩
        · rw [v1]; exact h3
        · rw [v3]; exact h4
  constructor
  · rintro ⟨q, hq, h⟩
    exact ⟨q, hq, (key q hq).mp h⟩
  · rintro ⟨q, hq, h⟩
    exact ⟨q, hq, (key q hq).mpr h⟩
set_option maxHeartbeats 4000000 in
set_option maxRecDepth 100000 in
theorem c_X2_isTaken (l : Launch) (D : va_G) (cy : Nat → ClassId) (A : Nat → Prop) (ad : Nat → Nat) (mi : Nat → Int) (ma : Nat → Nat → Int) (H0 : Heap) (k : Nat) (h : Int) (hw : zW D A ad (mE cy ad mi ma) H0) (hk60 : k < 60) (h1 : zr h) (hb7 : ∀ j, j < 11 → ma 7 j = 0 ∨ ma 7 j = 1) (hr9 : ∀ q, q < 10 → ma 7 q = 1 → zr (ma 15 q) ∧ zr (ma 17 q) ∧ 1 ≤ ma 10 q ∧ ma 10 q ≤ 30) (hh : ∀ j, j < 600 → ma 18 j = 0 ∨ ma 18 j = 1) : Met l yX2_isTaken wsX2_isTaken ({ frames := 1, cells := 0, slots := 0, locals := 22 }) (zPc D cy A [.ref (ad 0), .int (iI ((k : Int))), .int (iI (h))] H0) (zQi (fun z H1 => H1 = H0 ∧ ((z = 1 ∧ ∃ q, q < 10 ∧ ma 18 (60 * q + k) = 1 ∧ ma 7 q = 1 ∧ ma 15 q ≤ h ∧ h < ma 17 q) ∨ (z = 0 ∧ ¬ (∃ q, q < 10 ∧ ma 18 (60 * q + k) = 1 ∧ ma 7 q = 1 ∧ ma 15 q ≤ h ∧ h < ma 17 q)))) A) 0 0 A := by
  refine Met.ofW (cc := cX2_isTaken) (maxL := 5) (ret := (some .boolean)) (by decide) rfl ?_
  intro pg en s mt args below meth c s₁ B hml hv
  obtain ⟨rfl, hH, hE⟩ := hv
  subst hH
  have hx := B.exec
  have hb := B.bytes
  have hr := B.returns
  have hts := atoms_spec (ws := wsX2_isTaken) B.pre
  have hown : s.vm.findClass RX2 = some mt.cls := findClass_of_methodNamed B.named
  have hlocks := B.notSynchronized
  have hinX2 : ∀ w ∈ u_ws RX2 TX2 19, w ∈ wsX2_isTaken := by decide +kernel
  have hS : va_S A s.heap s.heap [] := va_S.rf
  have hl := lv_entry ([.ref (ad 0), .int (iI ((k : Int))), .int (iI (h))]) (n := 5) (Nat.le_of_ble_eq_true rfl)
  rw [lg_entry_eq]
  generalize (lg_sl ([.ref (ad 0), .int (iI ((k : Int))), .int (iI (h))]) ++ List.replicate (5 - (lg_sl ([.ref (ad 0), .int (iI ((k : Int))), .int (iI (h))])).length) Slot.unset).toArray = ls at hl ⊢
  have hl : lv_has ls 5 [(0, .ref (ad 0)), (1, .int (iI ((k : Int)))), (2, .int (iI (h)))] := hl
  refine zi_const hx hb dX2_isTaken_0 ?_
  refine lv_istore_n (lv' := [(3, .int (iI (0))), (0, .ref (ad 0)), (1, .int (iI ((k : Int)))), (2, .int (iI (h)))]) hx hb dX2_isTaken_1 rfl hl (by decide) rfl (fun ls hl => ?_)
  refine zi_const hx hb dX2_isTaken_2 ?_
  refine lv_istore (lv' := [(4, .int (iI (0))), (3, .int (iI (0))), (0, .ref (ad 0)), (1, .int (iI ((k : Int)))), (2, .int (iI (h)))]) hx hb dX2_isTaken_3 hl (by decide) rfl (fun ls hl => ?_)
  have loop_5 : ∀ (n : Nat) (p : Nat) (w : Int) (locs : List Loc) (ls : Array Slot), 10 - p < n → (p ≤ 10) → ((w = 1 ∧ ∃ q, q < p ∧ ma 18 (60 * q + k) = 1 ∧ ma 7 q = 1 ∧ ma 15 q ≤ h ∧ h < ma 17 q) ∨ (w = 0 ∧ ¬ (∃ q, q < p ∧ ma 18 (60 * q + k) = 1 ∧ ma 7 q = 1 ∧ ma 15 q ≤ h ∧ h < ma 17 q))) → va_S A s.heap s.heap locs → lv_has ls 5 [(4, .int (iI ((p : Int)))), (3, .int (iI (w))), (0, .ref (ad 0)), (1, .int (iI ((k : Int)))), (2, .int (iI (h)))] → W pg l en (headSpec wsX2_isTaken ({ frames := 1, cells := 0, slots := 0, locals := 22 })).room s mt ([.ref (ad 0), .int (iI ((k : Int))), .int (iI (h))] : List Value).toArray below meth c s.heap locs 0 0 (MQ below (zQi (fun z H1 => H1 = s.heap ∧ ((z = 1 ∧ ∃ q, q < 10 ∧ ma 18 (60 * q + k) = 1 ∧ ma 7 q = 1 ∧ ma 15 q ≤ h ∧ h < ma 17 q) ∨ (z = 0 ∧ ¬ (∃ q, q < 10 ∧ ma 18 (60 * q + k) = 1 ∧ ma 7 q = 1 ∧ ma 15 q ≤ h ∧ h < ma 17 q)))) A) ([.ref (ad 0), .int (iI ((k : Int))), .int (iI (h))] : List Value).toArray s 0 0 A) (F0 mt 5 ls []) := by
    intro n
    induction n with
    | zero =>
      intro p w locs ls hm hp10 hw9
      exfalso; omega
    | succ n ih =>
      intro p w locs ls hm hp10 hw9 hS hl
      refine lv_iload hx hb dX2_isTaken_5 (lv_at hl 0 rfl) ?_
      refine zi_bipush hx hb dX2_isTaken_7 (by decide) ?_
      refine zc_ge (tgt := 53) hx hb dX2_isTaken_9 (by decide) (by first | decide | (constructor <;> omega)) (by first | decide | (constructor <;> omega)) (fun c_9 => ?_) (fun c_9 => ?_)
      · refine lv_iload_n hx hb dX2_isTaken_53 rfl (lv_at hl 1 rfl) ?_
        refine zzret hx hb hr hlocks hS (Nat.le_of_ble_eq_true rfl) (Nat.le_of_ble_eq_true rfl) (by omega) ?_ dX2_isTaken_54
        rw [show p = 10 by omega] at hw9
        exact ⟨rfl, hw9⟩
      · refine lv_iload_n hx hb dX2_isTaken_12 rfl (lv_at hl 1 rfl) ?_
        refine zf_ne (tgt := 41) hx hb dX2_isTaken_13 (by decide) (by first | decide | (constructor <;> omega)) (fun c_13 => ?_) (fun c_13 => ?_)
        · refine zi_const hx hb dX2_isTaken_41 ?_
          refine lv_goto (tgt := 46) hx hb dX2_isTaken_42 (by decide) ?_
          refine lv_istore_n (lv' := [(3, .int (iI (1))), (4, .int (iI ((p : Int)))), (0, .ref (ad 0)), (1, .int (iI ((k : Int)))), (2, .int (iI (h)))]) hx hb dX2_isTaken_46 rfl hl (by decide) rfl (fun ls hl => ?_)
          refine zi_iinc (lv' := [(4, .int (iI ((p : Int) + 1))), (3, .int (iI (1))), (0, .ref (ad 0)), (1, .int (iI ((k : Int)))), (2, .int (iI (h)))]) hx hb dX2_isTaken_47 hl (k := 1) rfl (by decide) rfl (fun ls hl => ?_)
          refine lv_goto (tgt := 5) hx hb dX2_isTaken_50 (by decide) ?_
          exact ih (p + 1) 1 _ _ (by omega) (by omega) (Or.inl ⟨rfl, by rcases hw9 with h9 | h9; (obtain ⟨q, hq, hq2⟩ := h9.2; exact ⟨q, by omega, hq2⟩); omega⟩) hS (lv_sub hl [0, 1, 2, 3, 4] rfl)
        · refine lv_aload_n hx hb dX2_isTaken_16 rfl (lv_at hl 2 rfl) ?_
          refine zget (C := RX2) (T := TX2) (N := 19) hx hb hts hinX2 hown hE hw 0 mE_0 rfl 18 (by decide) (hts (.fieldLink RX2 63 "FormworkYardModel" "has" "[Z") (by decide +kernel)) rfl dX2_isTaken_17 ?_
          refine zi_bipush hx hb dX2_isTaken_20 (by decide) ?_
          refine lv_iload hx hb dX2_isTaken_22 (lv_at hl 0 rfl) ?_
          refine zi_mul hx hb dX2_isTaken_24 ?_
          refine lv_iload_n hx hb dX2_isTaken_25 rfl (lv_at hl 3 rfl) ?_
          refine zi_add hx hb dX2_isTaken_26 ?_
          refine zzald hx hb hE hw 18 (mE_a 18 (by decide) rfl) (60 * p + k) (by omega) (by omega) (by omega) dX2_isTaken_27 ?_
          refine zi_top (fun v_27 hv_27 => ?_)
          have hB := hh (60 * p + k) (by omega)
          refine zf_eq (tgt := 45) hx hb dX2_isTaken_28 (by decide) (by first | decide | (constructor <;> omega)) (fun c_28 => ?_) (fun c_28 => ?_)
          · refine zi_const hx hb dX2_isTaken_45 ?_
            refine lv_istore_n (lv' := [(3, .int (iI (0))), (4, .int (iI ((p : Int)))), (0, .ref (ad 0)), (1, .int (iI ((k : Int)))), (2, .int (iI (h)))]) hx hb dX2_isTaken_46 rfl hl (by decide) rfl (fun ls hl => ?_)
            refine zi_iinc (lv' := [(4, .int (iI ((p : Int) + 1))), (3, .int (iI (0))), (0, .ref (ad 0)), (1, .int (iI ((k : Int)))), (2, .int (iI (h)))]) hx hb dX2_isTaken_47 hl (k := 1) rfl (by decide) rfl (fun ls hl => ?_)
            refine lv_goto (tgt := 5) hx hb dX2_isTaken_50 (by decide) ?_
            exact ih (p + 1) 0 _ _ (by omega) (by omega) (Or.inr ⟨rfl, fun ⟨q, hq, hq2⟩ => by rcases hw9 with h9 | h9; omega; by_cases hqp : q = p; (subst hqp; omega); exact h9.2 ⟨q, by omega, hq2⟩⟩) hS (lv_sub hl [0, 1, 2, 3, 4] rfl)
          · refine lv_aload_n hx hb dX2_isTaken_31 rfl (lv_at hl 2 rfl) ?_
            refine lv_iload hx hb dX2_isTaken_32 (lv_at hl 0 rfl) ?_
            refine lv_iload_n hx hb dX2_isTaken_34 rfl (lv_at hl 4 rfl) ?_
            refine zcalli (va_runV (As := [.int (iI ((p : Int))), .int (iI (h))]) (rest := []) ⟨hx, hb, hml, hown, hts⟩ (c_X2_isBusy l D cy A ad mi ma _ p (h) hw (by omega) (by first | decide | (constructor <;> omega)) hb7 (fun q => ⟨(hr9 _ (by omega) q).1, (hr9 _ (by omega) q).2.1⟩)) (cwV 2 hts gX2_isTaken_X2_isBusy rfl rfl rfl (by decide +kernel) ⟨(Nat.le_of_ble_eq_true rfl), (Nat.le_of_ble_eq_true rfl)⟩) (zPV hE hS hw (ci := 2) (k0 := 0) rfl mE_0) rfl rfl hl.1 rfl (lv_room (Nat.le_of_ble_eq_true rfl)) dX2_isTaken_35 ⟨(Nat.le_of_ble_eq_true rfl), (Nat.le_of_ble_eq_true rfl)⟩) hS (fun z_35 H1 locs hz_35 hq hz1 hk1 hS => ?_)
            obtain ⟨hqe, hv_35⟩ := hq
            replace hqe := hqe.symm
            subst hqe
            refine zf_eq (tgt := 45) hx hb dX2_isTaken_38 (by decide) (by first | decide | (constructor <;> omega)) (fun c_38 => ?_) (fun c_38 => ?_)
            · refine zi_const hx hb dX2_isTaken_45 ?_
              refine lv_istore_n (lv' := [(3, .int (iI (0))), (4, .int (iI ((p : Int)))), (0, .ref (ad 0)), (1, .int (iI ((k : Int)))), (2, .int (iI (h)))]) hx hb dX2_isTaken_46 rfl hl (by decide) rfl (fun ls hl => ?_)
              refine zi_iinc (lv' := [(4, .int (iI ((p : Int) + 1))), (3, .int (iI (0))), (0, .ref (ad 0)), (1, .int (iI ((k : Int)))), (2, .int (iI (h)))]) hx hb dX2_isTaken_47 hl (k := 1) rfl (by decide) rfl (fun ls hl => ?_)
              refine lv_goto (tgt := 5) hx hb dX2_isTaken_50 (by decide) ?_
              exact ih (p + 1) 0 _ _ (by omega) (by omega) (Or.inr ⟨rfl, fun ⟨q, hq, hq2⟩ => by rcases hw9 with h9 | h9; omega; by_cases hqp : q = p; (subst hqp; omega); exact h9.2 ⟨q, by omega, hq2⟩⟩) hS (lv_sub hl [0, 1, 2, 3, 4] rfl)
            · refine zi_const hx hb dX2_isTaken_41 ?_
              refine lv_goto (tgt := 46) hx hb dX2_isTaken_42 (by decide) ?_
              refine lv_istore_n (lv' := [(3, .int (iI (1))), (4, .int (iI ((p : Int)))), (0, .ref (ad 0)), (1, .int (iI ((k : Int)))), (2, .int (iI (h)))]) hx hb dX2_isTaken_46 rfl hl (by decide) rfl (fun ls hl => ?_)
              refine zi_iinc (lv' := [(4, .int (iI ((p : Int) + 1))), (3, .int (iI (1))), (0, .ref (ad 0)), (1, .int (iI ((k : Int)))), (2, .int (iI (h)))]) hx hb dX2_isTaken_47 hl (k := 1) rfl (by decide) rfl (fun ls hl => ?_)
              refine lv_goto (tgt := 5) hx hb dX2_isTaken_50 (by decide) ?_
              exact ih (p + 1) 1 _ _ (by omega) (by omega) (Or.inl ⟨rfl, p, by omega, by omega, by omega, by omega, by omega⟩) hS (lv_sub hl [0, 1, 2, 3, 4] rfl)
  exact loop_5 11 0 0 _ _ (by omega) (by omega) (Or.inr ⟨rfl, fun ⟨q, hq, _⟩ => absurd hq (Nat.not_lt_zero q)⟩) hS (lv_sub hl [0, 1, 2, 3, 4] rfl)

set_option maxHeartbeats 4000000 in
set_option maxRecDepth 100000 in
theorem c_X2_gives (l : Launch) (D : va_G) (cy : Nat → ClassId) (A : Nat → Prop) (ad : Nat → Nat) (mi : Nat → Int) (ma : Nat → Nat → Int) (H0 : Heap) (hw : zW D A ad (mE cy ad mi ma) H0) (hm0 : mOK mi ma) : Met l yX2_gives wsX2_gives ({ frames := 5, cells := 0, slots := 0, locals := 108 }) (zPc D cy A [.ref (ad 0)] H0) (zQv (fun H1 => ∃ mb, zW D A ad (mE cy ad mi mb) H1 ∧ gU ma mb ∧ (∀ q, q < 10 → ma 7 q = 1 → wV mi ma q mb) ∧ hM (FM mi ma 10000) mb ∧ ∀ j, j < 600 → mb 18 j = 0 ∨ mb 18 j = 1) A) 0 0 A := by
  refine Met.ofW (cc := cX2_gives) (maxL := 5) (ret := none) (by decide) rfl ?_
  intro pg en s mt args below meth c s₁ B hml hv
  obtain ⟨rfl, hH, hE⟩ := hv
  subst hH
  have hx := B.exec
  have hb := B.bytes
  have hr := B.returns
  have hts := atoms_spec (ws := wsX2_gives) B.pre
  have hown : s.vm.findClass RX2 = some mt.cls := findClass_of_methodNamed B.named
  have hlocks := B.notSynchronized
  have hinX2 : ∀ w ∈ u_ws RX2 TX2 19, w ∈ wsX2_gives := by decide +kernel
  have hS : va_S A s.heap s.heap [] := va_S.rf
  have hl := lv_entry ([.ref (ad 0)]) (n := 5) (Nat.le_of_ble_eq_true rfl)
  rw [lg_entry_eq]
  generalize (lg_sl ([.ref (ad 0)]) ++ List.replicate (5 - (lg_sl ([.ref (ad 0)])).length) Slot.unset).toArray = ls at hl ⊢
  have hl : lv_has ls 5 [(0, .ref (ad 0))] := hl
  obtain ⟨ht, hg, hb7, hpo⟩ := id hm0
  obtain ⟨g1, g2, g3, g4, g5⟩ := id hg
  refine lv_aload_n hx hb dX2_gives_0 rfl (lv_at hl 0 rfl) ?_
  refine zcallv (va_runV (As := []) (rest := []) ⟨hx, hb, hml, hown, hts⟩ (c_X2_worksAll l D cy A ad mi ma _ hw hm0) (cwV 0 hts gX2_gives_X2_worksAll rfl rfl rfl (by decide +kernel) ⟨(Nat.le_of_ble_eq_true rfl), (Nat.le_of_ble_eq_true rfl)⟩) (zPV hE hS hw (ci := 2) (k0 := 0) rfl mE_0) rfl rfl hl.1 rfl (lv_room (Nat.le_of_ble_eq_true rfl)) dX2_gives_1 ⟨(Nat.le_of_ble_eq_true rfl), (Nat.le_of_ble_eq_true rfl)⟩) hS (fun H1 locs hq hz1 hk1 hS => ?_)
  obtain ⟨ma_w1, hw, haU_1, haV_1⟩ := hq
  obtain ⟨hb7w, hr9w⟩ := zr9 hm0 haU_1 haV_1
  refine zi_const hx hb dX2_gives_4 ?_
  refine lv_istore_n (lv' := [(1, .int (iI (0))), (0, .ref (ad 0))]) hx hb dX2_gives_5 rfl hl (by decide) rfl (fun ls hl => ?_)
  have loop_6 : ∀ (n : Nat) (x : Nat) (mb : Nat → Nat → Int) (H : Heap) (locs : List Loc) (ls : Array Slot), 600 - x < n → (x ≤ 600) → (∀ r, r ≠ 18 → mb r = ma_w1 r) → (∀ j, j < x → mb 18 j = 0) → zW D A ad (mE cy ad mi mb) H → va_S A s.heap H locs → lv_has ls 5 [(1, .int (iI ((x : Int)))), (0, .ref (ad 0))] → W pg l en (headSpec wsX2_gives ({ frames := 5, cells := 0, slots := 0, locals := 108 })).room s mt ([.ref (ad 0)] : List Value).toArray below meth c H locs 0 0 (MQ below (zQv (fun H1 => ∃ mb, zW D A ad (mE cy ad mi mb) H1 ∧ gU ma mb ∧ (∀ q, q < 10 → ma 7 q = 1 → wV mi ma q mb) ∧ hM (FM mi ma 10000) mb ∧ ∀ j, j < 600 → mb 18 j = 0 ∨ mb 18 j = 1) A) ([.ref (ad 0)] : List Value).toArray s 0 0 A) (F0 mt 6 ls []) := by
    intro n
    induction n with
    | zero =>
      intro x mb H locs ls hm hx9 hR hz9
      exfalso; omega
    | succ n ih =>
      intro x mb H locs ls hm hx9 hR hz9 hw hS hl
      refine lv_iload_n hx hb dX2_gives_6 rfl (lv_at hl 0 rfl) ?_
      refine zi_sipush hx hb dX2_gives_7 (by decide) ?_
      refine zc_ge (tgt := 26) hx hb dX2_gives_10 (by decide) (by first | decide | (constructor <;> omega)) (by first | decide | (constructor <;> omega)) (fun c_10 => ?_) (fun c_10 => ?_)
      · refine zi_const hx hb dX2_gives_26 ?_
        refine lv_istore_n (lv' := [(1, .int (iI (0))), (0, .ref (ad 0))]) hx hb dX2_gives_27 rfl hl (by decide) rfl (fun ls hl => ?_)
        have loop_28 : ∀ (n : Nat) (i : Nat) (mb : Nat → Nat → Int) (H : Heap) (locs : List Loc) (ls : Array Slot), 1000 - i < n → (i ≤ 1000) → (∀ r, r ≠ 18 → mb r = ma_w1 r) → (hM (FM mi ma (10 * i)) mb) → (∀ j, j < 600 → mb 18 j = 0 ∨ mb 18 j = 1) → zW D A ad (mE cy ad mi mb) H → va_S A s.heap H locs → lv_has ls 5 [(1, .int (iI ((i : Int)))), (0, .ref (ad 0))] → W pg l en (headSpec wsX2_gives ({ frames := 5, cells := 0, slots := 0, locals := 108 })).room s mt ([.ref (ad 0)] : List Value).toArray below meth c H locs 0 0 (MQ below (zQv (fun H1 => ∃ mb, zW D A ad (mE cy ad mi mb) H1 ∧ gU ma mb ∧ (∀ q, q < 10 → ma 7 q = 1 → wV mi ma q mb) ∧ hM (FM mi ma 10000) mb ∧ ∀ j, j < 600 → mb 18 j = 0 ∨ mb 18 j = 1) A) ([.ref (ad 0)] : List Value).toArray s 0 0 A) (F0 mt 28 ls []) := by
          intro n
          induction n with
          | zero =>
            intro i mb H locs ls hm hi9 hR hH8 hb8
            exfalso; omega
          | succ n ih =>
            intro i mb H locs ls hm hi9 hR hH8 hb8 hw hS hl
            have ihi := ih
            refine lv_iload_n hx hb dX2_gives_28 rfl (lv_at hl 0 rfl) ?_
            refine zi_sipush hx hb dX2_gives_29 (by decide) ?_
            refine zc_ge (tgt := 133) hx hb dX2_gives_32 (by decide) (by first | decide | (constructor <;> omega)) (by first | decide | (constructor <;> omega)) (fun c_32 => ?_) (fun c_32 => ?_)
            · refine zvret hx hb hr hlocks hS (Nat.le_of_ble_eq_true rfl) (Nat.le_of_ble_eq_true rfl) ?_ dX2_gives_133
              refine ⟨_, hw, fun r j hj => ?_, fun q hq h7 => ?_, ?_, hb8⟩
              · rw [hR r (by omega)]; exact haU_1 r j (by omega)
              · have h9 := haV_1 q hq h7; unfold wV at h9 ⊢; rw [hR 15 (by decide), hR 16 (by decide), hR 17 (by decide)]; exact h9
              · rw [show (10000 : Nat) = 10 * i by omega]; exact hH8
            · refine zi_const hx hb dX2_gives_35 ?_
              refine lv_istore_n (lv' := [(2, .int (iI (0))), (1, .int (iI ((i : Int)))), (0, .ref (ad 0))]) hx hb dX2_gives_36 rfl hl (by decide) rfl (fun ls hl => ?_)
              have loop_37 : ∀ (n : Nat) (p : Nat) (mb : Nat → Nat → Int) (H : Heap) (locs : List Loc) (ls : Array Slot), 10 - p < n → (p ≤ 10) → (∀ r, r ≠ 18 → mb r = ma_w1 r) → (hM (FM mi ma (10 * i + p)) mb) → (∀ j, j < 600 → mb 18 j = 0 ∨ mb 18 j = 1) → zW D A ad (mE cy ad mi mb) H → va_S A s.heap H locs → lv_has ls 5 [(2, .int (iI ((p : Int)))), (1, .int (iI ((i : Int)))), (0, .ref (ad 0))] → W pg l en (headSpec wsX2_gives ({ frames := 5, cells := 0, slots := 0, locals := 108 })).room s mt ([.ref (ad 0)] : List Value).toArray below meth c H locs 0 0 (MQ below (zQv (fun H1 => ∃ mb, zW D A ad (mE cy ad mi mb) H1 ∧ gU ma mb ∧ (∀ q, q < 10 → ma 7 q = 1 → wV mi ma q mb) ∧ hM (FM mi ma 10000) mb ∧ ∀ j, j < 600 → mb 18 j = 0 ∨ mb 18 j = 1) A) ([.ref (ad 0)] : List Value).toArray s 0 0 A) (F0 mt 37 ls []) := by
                intro n
                induction n with
                | zero =>
                  intro p mb H locs ls hm hp9 hR hH9 hb9
                  exfalso; omega
                | succ n ih =>
                  intro p mb H locs ls hm hp9 hR hH9 hb9 hw hS hl
                  have r7 : mb 7 = ma 7 := (hR 7 (by decide)).trans (aU_row haU_1 (by decide))
                  have r10 : mb 10 = ma 10 := (hR 10 (by decide)).trans (aU_row haU_1 (by decide))
                  have r15 : mb 15 = ma_w1 15 := hR 15 (by decide)
                  have r17 : mb 17 = ma_w1 17 := hR 17 (by decide)
                  have ihp := ih
                  refine lv_iload_n hx hb dX2_gives_37 rfl (lv_at hl 0 rfl) ?_
                  refine zi_bipush hx hb dX2_gives_38 (by decide) ?_
                  refine zc_ge (tgt := 127) hx hb dX2_gives_40 (by decide) (by first | decide | (constructor <;> omega)) (by first | decide | (constructor <;> omega)) (fun c_40 => ?_) (fun c_40 => ?_)
                  · refine zi_iinc (lv' := [(1, .int (iI ((i : Int) + 1))), (2, .int (iI ((p : Int)))), (0, .ref (ad 0))]) hx hb dX2_gives_127 hl (k := 1) rfl (by decide) rfl (fun ls hl => ?_)
                    refine lv_goto (tgt := 28) hx hb dX2_gives_130 (by decide) ?_
                    exact ihi (i + 1) mb _ _ _ (by omega) (by omega) hR (by rw [show 10 * (i + 1) = 10 * i + p by omega]; exact hH9) hb9 hw hS (lv_sub hl [0, 2] rfl)
                  · have hmod : (10 * i + p) % 10 = p := by omega
                    have hdiv : ((((10 * i + p) / 10 : Nat)) : Int) = (i : Int) := by omega
                    refine lv_aload_n hx hb dX2_gives_43 rfl (lv_at hl 2 rfl) ?_
                    refine zget (C := RX2) (T := TX2) (N := 19) hx hb hts hinX2 hown hE hw 0 mE_0 rfl 7 (by decide) (hts (.fieldLink RX2 29 "FormworkYardModel" "isThere" "[Z") (by decide +kernel)) rfl dX2_gives_44 ?_
                    refine lv_iload_n hx hb dX2_gives_47 rfl (lv_at hl 0 rfl) ?_
                    refine zzald hx hb hE hw 7 (mE_a 7 (by decide) rfl) p rfl (by omega) (by omega) dX2_gives_48 ?_
                    refine zi_top (fun v_48 hv_48 => ?_)
                    rw [r7] at hv_48
                    have hB := hb7 p (by omega)
                    refine zf_eq (tgt := 71) hx hb dX2_gives_49 (by decide) (by first | decide | (constructor <;> omega)) (fun c_49 => ?_) (fun c_49 => ?_)
                    · refine zi_const hx hb dX2_gives_71 ?_
                      refine lv_istore_n (lv' := [(3, .int (iI (0))), (2, .int (iI ((p : Int)))), (1, .int (iI ((i : Int)))), (0, .ref (ad 0))]) hx hb dX2_gives_72 rfl hl (by decide) rfl (fun ls hl => ?_)
                      refine zi_const hx hb dX2_gives_73 ?_
                      refine lv_istore (lv' := [(4, .int (iI (0))), (3, .int (iI (0))), (2, .int (iI ((p : Int)))), (1, .int (iI ((i : Int)))), (0, .ref (ad 0))]) hx hb dX2_gives_74 hl (by decide) rfl (fun ls hl => ?_)
                      refine lv_iload hx hb dX2_gives_76 (lv_at hl 0 rfl) ?_
                      refine lv_aload_n hx hb dX2_gives_78 rfl (lv_at hl 4 rfl) ?_
                      refine zget (C := RX2) (T := TX2) (N := 19) hx hb hts hinX2 hown hE hw 0 mE_0 rfl 2 (by decide) (hts (.fieldLink RX2 13 "FormworkYardModel" "panels" "I") (by decide +kernel)) rfl dX2_gives_79 ?_
                      refine zc_ge (tgt := 121) hx hb dX2_gives_82 (by decide) (by first | decide | (constructor <;> omega)) (by first | decide | (constructor <;> omega)) (fun c_82 => ?_) (fun c_82 => ?_)
                      · have hH10 : hM (FM mi ma (10 * i + (p + 1))) mb := by
                          show hM (FM mi ma (10 * i + p + 1)) mb
                          have e9 : FM mi ma (10 * i + p + 1) = FM mi ma (10 * i + p) := FK_no (by rw [hmod, hdiv]; rintro ⟨h91, h92⟩; unfold thM at h91; rw [decide_eq_true_eq] at h91; omega)
                          rw [e9]; exact hH9
                        refine zi_iinc (lv' := [(2, .int (iI ((p : Int) + 1))), (4, .int (iI (0))), (3, .int (iI (0))), (1, .int (iI ((i : Int)))), (0, .ref (ad 0))]) hx hb dX2_gives_121 hl (k := 2) rfl (by decide) rfl (fun ls hl => ?_)
                        refine lv_goto (tgt := 37) hx hb dX2_gives_124 (by decide) ?_
                        exact ihp (p + 1) mb _ _ _ (by omega) (by omega) hR hH10 hb9 hw hS (lv_sub hl [0, 3, 4] rfl)
                      · refine lv_iload_n hx hb dX2_gives_85 rfl (lv_at hl 1 rfl) ?_
                        refine zf_le (tgt := 121) hx hb dX2_gives_86 (by decide) (by first | decide | (constructor <;> omega)) (fun c_86 => ?_) (fun c_86 => ?_)
                        · have hH10 : hM (FM mi ma (10 * i + (p + 1))) mb := by
                            show hM (FM mi ma (10 * i + p + 1)) mb
                            have e9 : FM mi ma (10 * i + p + 1) = FM mi ma (10 * i + p) := FK_no (by rw [hmod, hdiv]; rintro ⟨h91, h92⟩; unfold thM at h91; rw [decide_eq_true_eq] at h91; omega)
                            rw [e9]; exact hH9
                          refine zi_iinc (lv' := [(2, .int (iI ((p : Int) + 1))), (4, .int (iI (0))), (3, .int (iI (0))), (1, .int (iI ((i : Int)))), (0, .ref (ad 0))]) hx hb dX2_gives_121 hl (k := 2) rfl (by decide) rfl (fun ls hl => ?_)
                          refine lv_goto (tgt := 37) hx hb dX2_gives_124 (by decide) ?_
                          exact ihp (p + 1) mb _ _ _ (by omega) (by omega) hR hH10 hb9 hw hS (lv_sub hl [0, 3, 4] rfl)
                        · exfalso; omega
                    · have h71 : ma 7 p = 1 := by omega
                      have hstq : ∀ h9 : ma 7 p = 1, stS mi ma p = ma_w1 15 p := fun h9 => ((haV_1 p (by omega) h9).1).symm
                      have hzq := (hr9w p (by omega) (by rw [aU_row haU_1 (by decide)]; exact h71)).1
                      refine lv_aload_n hx hb dX2_gives_52 rfl (lv_at hl 2 rfl) ?_
                      refine zget (C := RX2) (T := TX2) (N := 19) hx hb hts hinX2 hown hE hw 0 mE_0 rfl 15 (by decide) (hts (.fieldLink RX2 54 "FormworkYardModel" "stands" "[I") (by decide +kernel)) rfl dX2_gives_53 ?_
                      refine lv_iload_n hx hb dX2_gives_56 rfl (lv_at hl 0 rfl) ?_
                      refine ziald hx hb hE hw 15 (mE_a 15 (by decide) rfl) p rfl (by omega) (by omega) dX2_gives_57 ?_
                      refine zi_top (fun v_57 hv_57 => ?_)
                      rw [r15] at hv_57
                      refine lv_iload_n hx hb dX2_gives_58 rfl (lv_at hl 1 rfl) ?_
                      refine zc_ne (tgt := 71) hx hb dX2_gives_59 (by decide) (by first | decide | (constructor <;> omega)) (by first | decide | (constructor <;> omega)) (fun c_59 => ?_) (fun c_59 => ?_)
                      · have hstn : ∀ h9 : ma 7 p = 1, stS mi ma p ≠ (i : Int) := fun h9 => by rw [hstq h9]; omega
                        refine zi_const hx hb dX2_gives_71 ?_
                        refine lv_istore_n (lv' := [(3, .int (iI (0))), (2, .int (iI ((p : Int)))), (1, .int (iI ((i : Int)))), (0, .ref (ad 0))]) hx hb dX2_gives_72 rfl hl (by decide) rfl (fun ls hl => ?_)
                        refine zi_const hx hb dX2_gives_73 ?_
                        refine lv_istore (lv' := [(4, .int (iI (0))), (3, .int (iI (0))), (2, .int (iI ((p : Int)))), (1, .int (iI ((i : Int)))), (0, .ref (ad 0))]) hx hb dX2_gives_74 hl (by decide) rfl (fun ls hl => ?_)
                        refine lv_iload hx hb dX2_gives_76 (lv_at hl 0 rfl) ?_
                        refine lv_aload_n hx hb dX2_gives_78 rfl (lv_at hl 4 rfl) ?_
                        refine zget (C := RX2) (T := TX2) (N := 19) hx hb hts hinX2 hown hE hw 0 mE_0 rfl 2 (by decide) (hts (.fieldLink RX2 13 "FormworkYardModel" "panels" "I") (by decide +kernel)) rfl dX2_gives_79 ?_
                        refine zc_ge (tgt := 121) hx hb dX2_gives_82 (by decide) (by first | decide | (constructor <;> omega)) (by first | decide | (constructor <;> omega)) (fun c_82 => ?_) (fun c_82 => ?_)
                        · have hH10 : hM (FM mi ma (10 * i + (p + 1))) mb := by
                            show hM (FM mi ma (10 * i + p + 1)) mb
                            have e9 : FM mi ma (10 * i + p + 1) = FM mi ma (10 * i + p) := FK_no (by rw [hmod, hdiv]; rintro ⟨h91, h92⟩; unfold thM at h91; rw [decide_eq_true_eq] at h91; have hh := hstq h91; omega)
                            rw [e9]; exact hH9
                          refine zi_iinc (lv' := [(2, .int (iI ((p : Int) + 1))), (4, .int (iI (0))), (3, .int (iI (0))), (1, .int (iI ((i : Int)))), (0, .ref (ad 0))]) hx hb dX2_gives_121 hl (k := 2) rfl (by decide) rfl (fun ls hl => ?_)
                          refine lv_goto (tgt := 37) hx hb dX2_gives_124 (by decide) ?_
                          exact ihp (p + 1) mb _ _ _ (by omega) (by omega) hR hH10 hb9 hw hS (lv_sub hl [0, 3, 4] rfl)
                        · refine lv_iload_n hx hb dX2_gives_85 rfl (lv_at hl 1 rfl) ?_
                          refine zf_le (tgt := 121) hx hb dX2_gives_86 (by decide) (by first | decide | (constructor <;> omega)) (fun c_86 => ?_) (fun c_86 => ?_)
                          · have hH10 : hM (FM mi ma (10 * i + (p + 1))) mb := by
                              show hM (FM mi ma (10 * i + p + 1)) mb
                              have e9 : FM mi ma (10 * i + p + 1) = FM mi ma (10 * i + p) := FK_no (by rw [hmod, hdiv]; rintro ⟨h91, h92⟩; unfold thM at h91; rw [decide_eq_true_eq] at h91; have hh := hstq h91; omega)
                              rw [e9]; exact hH9
                            refine zi_iinc (lv' := [(2, .int (iI ((p : Int) + 1))), (4, .int (iI (0))), (3, .int (iI (0))), (1, .int (iI ((i : Int)))), (0, .ref (ad 0))]) hx hb dX2_gives_121 hl (k := 2) rfl (by decide) rfl (fun ls hl => ?_)
                            refine lv_goto (tgt := 37) hx hb dX2_gives_124 (by decide) ?_
                            exact ihp (p + 1) mb _ _ _ (by omega) (by omega) hR hH10 hb9 hw hS (lv_sub hl [0, 3, 4] rfl)
                          · exfalso; omega
                      · have hst71 : stS mi ma p = (i : Int) := by rw [hstq h71]; omega
                        have hF0 : ∀ k, FM mi ma (10 * i + p) p k = false := fun k => by cases hf : FM mi ma (10 * i + p) p k with | false => rfl | true => have := (FK_key _ _ _ hf).2.2; rw [hst71] at this; omega
                        refine lv_aload_n hx hb dX2_gives_62 rfl (lv_at hl 2 rfl) ?_
                        refine zget (C := RX2) (T := TX2) (N := 19) hx hb hts hinX2 hown hE hw 0 mE_0 rfl 10 (by decide) (hts (.fieldLink RX2 39 "FormworkYardModel" "needs" "[I") (by decide +kernel)) rfl dX2_gives_63 ?_
                        refine lv_iload_n hx hb dX2_gives_66 rfl (lv_at hl 0 rfl) ?_
                        refine ziald hx hb hE hw 10 (mE_a 10 (by decide) rfl) p rfl (by omega) (by omega) dX2_gives_67 ?_
                        refine zi_top (fun v_67 hv_67 => ?_)
                        rw [r10] at hv_67
                        obtain ⟨-, -, hq10, -⟩ := hpo p (by omega) h71
                        refine lv_goto (tgt := 72) hx hb dX2_gives_68 (by decide) ?_
                        refine lv_istore_n (lv' := [(3, .int (iI (v_67))), (2, .int (iI ((p : Int)))), (1, .int (iI ((i : Int)))), (0, .ref (ad 0))]) hx hb dX2_gives_72 rfl hl (by decide) rfl (fun ls hl => ?_)
                        refine zi_const hx hb dX2_gives_73 ?_
                        refine lv_istore (lv' := [(4, .int (iI (0))), (3, .int (iI (v_67))), (2, .int (iI ((p : Int)))), (1, .int (iI ((i : Int)))), (0, .ref (ad 0))]) hx hb dX2_gives_74 hl (by decide) rfl (fun ls hl => ?_)
                        have loop_76 : ∀ (n : Nat) (x : Nat) (y : Int) (mc : Nat → Nat → Int) (H : Heap) (locs : List Loc) (ls : Array Slot), 60 - x < n → ((x : Int) ≤ mi 2) → (y = ma 10 p - lc (fun k => tkn (bsM mi ma) (FM mi ma (10 * i + p)) i k 10) (ma 10 p) x) → (∀ r, r ≠ 18 → mc r = ma_w1 r) → (hC (FM mi ma (10 * i + p)) p (lo (fun k => tkn (bsM mi ma) (FM mi ma (10 * i + p)) i k 10) (ma 10 p) (mi 2)) x mc) → (∀ j, j < 600 → mc 18 j = 0 ∨ mc 18 j = 1) → zW D A ad (mE cy ad mi mc) H → va_S A s.heap H locs → lv_has ls 5 [(4, .int (iI ((x : Int)))), (3, .int (iI (y))), (2, .int (iI ((p : Int)))), (1, .int (iI ((i : Int)))), (0, .ref (ad 0))] → W pg l en (headSpec wsX2_gives ({ frames := 5, cells := 0, slots := 0, locals := 108 })).room s mt ([.ref (ad 0)] : List Value).toArray below meth c H locs 0 0 (MQ below (zQv (fun H1 => ∃ mb, zW D A ad (mE cy ad mi mb) H1 ∧ gU ma mb ∧ (∀ q, q < 10 → ma 7 q = 1 → wV mi ma q mb) ∧ hM (FM mi ma 10000) mb ∧ ∀ j, j < 600 → mb 18 j = 0 ∨ mb 18 j = 1) A) ([.ref (ad 0)] : List Value).toArray s 0 0 A) (F0 mt 76 ls []) := by
                          intro n
                          induction n with
                          | zero =>
                            intro x y mc H locs ls hm hx9 hy9 hR2 hcc hb18
                            exfalso; omega
                          | succ n ih =>
                            intro x y mc H locs ls hm hx9 hy9 hR2 hcc hb18 hw hS hl
                            have hlb := lc_b (bz := fun k => tkn (bsM mi ma) (FM mi ma (10 * i + p)) i k 10) (nd := ma 10 p) (by omega) x
                            refine lv_iload hx hb dX2_gives_76 (lv_at hl 0 rfl) ?_
                            refine lv_aload_n hx hb dX2_gives_78 rfl (lv_at hl 4 rfl) ?_
                            refine zget (C := RX2) (T := TX2) (N := 19) hx hb hts hinX2 hown hE hw 0 mE_0 rfl 2 (by decide) (hts (.fieldLink RX2 13 "FormworkYardModel" "panels" "I") (by decide +kernel)) rfl dX2_gives_79 ?_
                            refine zc_ge (tgt := 121) hx hb dX2_gives_82 (by decide) (by first | decide | (constructor <;> omega)) (by first | decide | (constructor <;> omega)) (fun c_82 => ?_) (fun c_82 => ?_)
                            · have hH10 : hM (FM mi ma (10 * i + (p + 1))) mc := by
                                show hM (FM mi ma (10 * i + p + 1)) mc
                                refine hC_e hcc (fun k hk hxk => ?_) (fun q k => ?_)
                                · have hlm := lc_le (bz := fun k => tkn (bsM mi ma) (FM mi ma (10 * i + p)) i k 10) (nd := ma 10 p) hxk
                                  unfold lo; rw [decide_eq_false_iff_not]; intro hh9; have h93 := hh9.2.2; have h91 := hh9.1; omega
                                · unfold FM at *; rw [FK_yes (by rw [hmod, hdiv]; exact ⟨by unfold thM; rw [decide_eq_true_eq]; exact h71, hst71⟩), hmod, hdiv]; rfl
                              refine zi_iinc (lv' := [(2, .int (iI ((p : Int) + 1))), (4, .int (iI ((x : Int)))), (3, .int (iI (y))), (1, .int (iI ((i : Int)))), (0, .ref (ad 0))]) hx hb dX2_gives_121 hl (k := 2) rfl (by decide) rfl (fun ls hl => ?_)
                              refine lv_goto (tgt := 37) hx hb dX2_gives_124 (by decide) ?_
                              exact ihp (p + 1) mc _ _ _ (by omega) (by omega) hR2 hH10 hb18 hw hS (lv_sub hl [0, 3, 4] rfl)
                            · refine lv_iload_n hx hb dX2_gives_85 rfl (lv_at hl 1 rfl) ?_
                              refine zf_le (tgt := 121) hx hb dX2_gives_86 (by decide) (by first | decide | (constructor <;> omega)) (fun c_86 => ?_) (fun c_86 => ?_)
                              · have hH10 : hM (FM mi ma (10 * i + (p + 1))) mc := by
                                  show hM (FM mi ma (10 * i + p + 1)) mc
                                  refine hC_e hcc (fun k hk hxk => ?_) (fun q k => ?_)
                                  · have hlm := lc_le (bz := fun k => tkn (bsM mi ma) (FM mi ma (10 * i + p)) i k 10) (nd := ma 10 p) hxk
                                    unfold lo; rw [decide_eq_false_iff_not]; intro hh9; have h93 := hh9.2.2; have h91 := hh9.1; omega
                                  · unfold FM at *; rw [FK_yes (by rw [hmod, hdiv]; exact ⟨by unfold thM; rw [decide_eq_true_eq]; exact h71, hst71⟩), hmod, hdiv]; rfl
                                refine zi_iinc (lv' := [(2, .int (iI ((p : Int) + 1))), (4, .int (iI ((x : Int)))), (3, .int (iI (y))), (1, .int (iI ((i : Int)))), (0, .ref (ad 0))]) hx hb dX2_gives_121 hl (k := 2) rfl (by decide) rfl (fun ls hl => ?_)
                                refine lv_goto (tgt := 37) hx hb dX2_gives_124 (by decide) ?_
                                exact ihp (p + 1) mc _ _ _ (by omega) (by omega) hR2 hH10 hb18 hw hS (lv_sub hl [0, 3, 4] rfl)
                              · refine lv_aload_n hx hb dX2_gives_89 rfl (lv_at hl 4 rfl) ?_
                                refine lv_iload hx hb dX2_gives_90 (lv_at hl 0 rfl) ?_
                                refine lv_iload_n hx hb dX2_gives_92 rfl (lv_at hl 3 rfl) ?_
                                refine zcalli (va_runV (As := [.int (iI ((x : Int))), .int (iI ((i : Int)))]) (rest := []) ⟨hx, hb, hml, hown, hts⟩ (c_X2_isTaken l D cy A ad mi mc _ x ((i : Int)) hw (by omega) (by first | decide | (constructor <;> omega)) (by rw [hR2 7 (by decide)]; exact hb7w) (fun q hq h7 => by rw [hR2 7 (by decide)] at h7; rw [hR2 15 (by decide), hR2 17 (by decide), hR2 10 (by decide)]; exact hr9w q hq h7) hb18) (cwV 2 hts gX2_gives_X2_isTaken rfl rfl rfl (by decide +kernel) ⟨(Nat.le_of_ble_eq_true rfl), (Nat.le_of_ble_eq_true rfl)⟩) (zPV hE hS hw (ci := 2) (k0 := 0) rfl mE_0) rfl rfl hl.1 rfl (lv_room (Nat.le_of_ble_eq_true rfl)) dX2_gives_93 ⟨(Nat.le_of_ble_eq_true rfl), (Nat.le_of_ble_eq_true rfl)⟩) hS (fun z_93 H1 locs hz_93 hq hz1 hk1 hS => ?_)
                                obtain ⟨hqe, hv_93⟩ := hq
                                replace hqe := hqe.symm
                                subst hqe
                                have hTk : (∃ q, q < 10 ∧ mc 18 (60 * q + x) = 1 ∧ mc 7 q = 1 ∧ mc 15 q ≤ (i : Int) ∧ (i : Int) < mc 17 q) ↔ tkn (bsM mi ma) (FM mi ma (10 * i + p)) i x 10 = true := zTk haU_1 haV_1 hR2 hcc (by omega) hF0 (by omega)
                                refine zf_ne (tgt := 115) hx hb dX2_gives_96 (by decide) (by first | decide | (constructor <;> omega)) (fun c_96 => ?_) (fun c_96 => ?_)
                                · have htk : tkn (bsM mi ma) (FM mi ma (10 * i + p)) i x 10 = true := hTk.mp (by rcases hv_93 with h9 | h9; exact h9.2; omega)
                                  clear hTk hv_93
                                  refine zi_iinc (lv' := [(4, .int (iI ((x : Int) + 1))), (3, .int (iI (y))), (2, .int (iI ((p : Int)))), (1, .int (iI ((i : Int)))), (0, .ref (ad 0))]) hx hb dX2_gives_115 hl (k := 0) rfl (by decide) rfl (fun ls hl => ?_)
                                  refine lv_goto (tgt := 76) hx hb dX2_gives_118 (by decide) ?_
                                  exact ih (x + 1) y mc _ _ _ (by omega) (by omega) (by simp only [lc]; rw [if_neg (by rw [htk]; simp), hy9]; omega) hR2 (hC_n hcc (by omega) (by unfold lo; rw [decide_eq_false_iff_not]; intro h9; have h92 : tkn (bsM mi ma) (FM mi ma (10 * i + p)) i x 10 = false := h9.2.1; rw [htk] at h92; cases h92)) hb18 hw hS (lv_sub hl [0, 1, 2, 3, 4] rfl)
                                · have htk : tkn (bsM mi ma) (FM mi ma (10 * i + p)) i x 10 = false := by cases hf : tkn (bsM mi ma) (FM mi ma (10 * i + p)) i x 10 with | false => rfl | true => rcases hv_93 with h9 | h9; omega; exact absurd (hTk.mpr hf) h9.2
                                  clear hTk hv_93
                                  refine lv_aload_n hx hb dX2_gives_99 rfl (lv_at hl 4 rfl) ?_
                                  refine zget (C := RX2) (T := TX2) (N := 19) hx hb hts hinX2 hown hE hw 0 mE_0 rfl 18 (by decide) (hts (.fieldLink RX2 63 "FormworkYardModel" "has" "[Z") (by decide +kernel)) rfl dX2_gives_100 ?_
                                  refine zi_bipush hx hb dX2_gives_103 (by decide) ?_
                                  refine lv_iload_n hx hb dX2_gives_105 rfl (lv_at hl 2 rfl) ?_
                                  refine zi_mul hx hb dX2_gives_106 ?_
                                  refine lv_iload hx hb dX2_gives_107 (lv_at hl 0 rfl) ?_
                                  refine zi_add hx hb dX2_gives_109 ?_
                                  refine zi_const hx hb dX2_gives_110 ?_
                                  refine zzast hx hb hE hS hw 18 (mE_a 18 (by decide) rfl) (by omega) (60 * p + x) (by omega) (by omega) (by omega) dX2_gives_111 (fun H locs hw hS => ?_)
                                  have hw := hw.cong (mU_a 18 (by decide) rfl ((60 * p + x)) (1))
                                  obtain ⟨ma_1, hma_1⟩ : ∃ z : Nat → Nat → Int, z = (va_up mc 18 (va_up (mc 18) ((60 * p + x)) (1))) := ⟨_, rfl⟩
                                  rw [← hma_1] at hw
                                  refine zi_iinc (lv' := [(3, .int (iI (y + (-1)))), (4, .int (iI ((x : Int)))), (2, .int (iI ((p : Int)))), (1, .int (iI ((i : Int)))), (0, .ref (ad 0))]) hx hb dX2_gives_112 hl (k := 1) rfl (by decide) rfl (fun ls hl => ?_)
                                  refine zi_iinc (lv' := [(4, .int (iI ((x : Int) + 1))), (3, .int (iI (y + (-1)))), (2, .int (iI ((p : Int)))), (1, .int (iI ((i : Int)))), (0, .ref (ad 0))]) hx hb dX2_gives_115 hl (k := 1) rfl (by decide) rfl (fun ls hl => ?_)
                                  refine lv_goto (tgt := 76) hx hb dX2_gives_118 (by decide) ?_
                                  have hS9 := rU_s (k := 18) (p := 60 * p + x) rU_r hma_1
                                  rw [show y + (-1) = y - 1 from rfl] at hl
                                  exact ih (x + 1) (y - 1) ma_1 _ _ _ (by omega) (by omega) (by simp only [lc]; rw [if_pos ⟨htk, by omega⟩, hy9]; omega) (fun r hr => (rU_row hS9.1 hr).trans (hR2 r hr)) (hC_y hcc (by omega) (by unfold lo; rw [decide_eq_true_eq]; exact ⟨by omega, htk, by omega⟩) hS9) (fun j hj => by by_cases hj2 : j = 60 * p + x; (subst hj2; exact Or.inr hS9.2); rw [hS9.1 18 j (Or.inr hj2)]; exact hb18 j hj) hw hS (lv_sub hl [0, 1, 2, 3, 4] rfl)
                        exact loop_76 61 0 v_67 mb _ _ _ (by omega) (by omega) (by rw [hv_67]; simp [lc]) hR (hC_0 hH9 (by omega) hF0) hb9 hw hS (lv_sub hl [0, 1, 2, 3, 4] rfl)
              exact loop_37 11 0 mb _ _ _ (by omega) (by omega) hR hH8 hb8 hw hS (lv_sub hl [0, 1, 2] rfl)
        exact loop_28 1001 0 mb _ _ _ (by omega) (by omega) hR (fun q hq k hk => hz9 _ (by omega)) (fun j hj => Or.inl (hz9 j (by omega))) hw hS (lv_sub hl [0, 1] rfl)
      · refine lv_aload_n hx hb dX2_gives_13 rfl (lv_at hl 1 rfl) ?_
        refine zget (C := RX2) (T := TX2) (N := 19) hx hb hts hinX2 hown hE hw 0 mE_0 rfl 18 (by decide) (hts (.fieldLink RX2 63 "FormworkYardModel" "has" "[Z") (by decide +kernel)) rfl dX2_gives_14 ?_
        refine lv_iload_n hx hb dX2_gives_17 rfl (lv_at hl 0 rfl) ?_
        refine zi_const hx hb dX2_gives_18 ?_
        refine zzast hx hb hE hS hw 18 (mE_a 18 (by decide) rfl) (by omega) x rfl (by omega) (by omega) dX2_gives_19 (fun H locs hw hS => ?_)
        have hw := hw.cong (mU_a 18 (by decide) rfl (x) (0))
        obtain ⟨ma_2, hma_2⟩ : ∃ z : Nat → Nat → Int, z = (va_up mb 18 (va_up (mb 18) (x) (0))) := ⟨_, rfl⟩
        rw [← hma_2] at hw
        refine zi_iinc (lv' := [(1, .int (iI ((x : Int) + 1))), (0, .ref (ad 0))]) hx hb dX2_gives_20 hl (k := 0) rfl (by decide) rfl (fun ls hl => ?_)
        refine lv_goto (tgt := 6) hx hb dX2_gives_23 (by decide) ?_
        have hS9 := rU_s (k := 18) (p := x) rU_r hma_2
        exact ih (x + 1) ma_2 _ _ _ (by omega) (by omega) (fun r hr => (rU_row hS9.1 hr).trans (hR r hr)) (fun j hj => by by_cases hj2 : j = x; (subst hj2; exact hS9.2); rw [hS9.1 18 j (Or.inr hj2)]; exact hz9 j (by omega)) hw hS (lv_sub hl [0, 1] rfl)
  exact loop_6 601 0 ma_w1 _ _ _ (by omega) (by omega) (fun _ _ => rfl) (fun j hj => absurd hj (Nat.not_lt_zero j)) hw hS (lv_sub hl [0, 1] rfl)
