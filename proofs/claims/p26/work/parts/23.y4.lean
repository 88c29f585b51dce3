theorem pB_ad {p q : PS} {a b : Int} (h : pB p) (h4 : p.1 4 < 4) (h1 : 0 ≤ a ∧ a ≤ 199) (h2 : 1 ≤ b ∧ b ≤ 9) (hr : adR a b p q) : pB q := by
  obtain ⟨q1, q2, q3, q4, q5, q6⟩ := h
  obtain ⟨r1, r2, r3⟩ := hr
  have ef : ∀ j, j ≠ 4 → q.1 j = p.1 j := fun j hj => by rw [r1]; exact up_ne _ _ hj
  have e4 : q.1 4 = p.1 4 + 1 := by rw [r1, up_same]
  unfold pB
  rw [ef 3 (by omega), ef 0 (by omega), ef 1 (by omega), ef 2 (by omega), e4]
  refine ⟨q1, q2, q3, q4, by omega, fun k hk => ?_⟩
  obtain ⟨s1, s2⟩ := r2 k (by omega)
  have hb := ipos_b p.2.1 a (p.1 4).toNat
  rw [s1, s2]
  unfold ins
  rcases Nat.lt_trichotomy k (ipos p.2.1 a (p.1 4).toNat) with c | c | c
  · rw [if_pos c, if_pos c]
    exact q6 k (by omega)
  · rw [if_neg (by omega), if_pos c, if_neg (by omega), if_pos c]
    omega
  · rw [if_neg (by omega), if_neg (by omega), if_neg (by omega), if_neg (by omega)]
    exact q6 (k - 1) (by omega)
set_option maxHeartbeats 4000000 in
set_option maxRecDepth 100000 in
theorem c_X1_move_ok (l : Launch) (D : va_G) (cy : Nat → ClassId) (A : Nat → Prop) (ad : Nat → Nat) (ya : Nat → Nat → Int) (yi : Nat → Int) (pr : Nat → Option PS) (H0 : Heap) (T : Nat → Int) (i : Nat) (p0 : PS) (a : Int) (hw : zW D A ad (yE cy ad ya yi pr) H0) (hi : i < 10) (hp0 : pr i = some p0) (hpb : pB p0) (h1 : 0 ≤ a ∧ a ≤ 900) (hg : yB yi) (hG : gnd T ya) (ht : tOK T) : Met l yX1_move wsX1_move ({ frames := 4, cells := 0, slots := 0, locals := 90 }) (zPc D cy A [.ref (ad 0), .int (iI ((i : Int))), .int (iI (a))] H0) (zQi (fun z H1 => ∃ q, zW D A ad (yE cy ad ya yi (va_up pr i (some q))) H1 ∧ schR T yi (va_up p0.1 3 a, p0.2) q ∧ z = p0.1 3) A) 0 0 A := by
  refine Met.ofW (cc := cX1_move) (maxL := 5) (ret := (some .int)) (by decide) rfl ?_
  intro pg en s mt args below meth c s₁ B hml hv
  obtain ⟨rfl, hH, hE⟩ := hv
  subst hH
  have hx := B.exec
  have hb := B.bytes
  have hr := B.returns
  have hts := atoms_spec (ws := wsX1_move) B.pre
  have hown : s.vm.findClass RX1 = some mt.cls := findClass_of_methodNamed B.named
  have hlocks := B.notSynchronized
  have hinX0 : ∀ w ∈ u_ws RX0 TX0 13, w ∈ wsX1_move := by decide +kernel
  have hS : va_S A s.heap s.heap [] := va_S.rf
  have hl := lv_entry ([.ref (ad 0), .int (iI ((i : Int))), .int (iI (a))]) (n := 5) (Nat.le_of_ble_eq_true rfl)
  rw [lg_entry_eq]
  generalize (lg_sl ([.ref (ad 0), .int (iI ((i : Int))), .int (iI (a))]) ++ List.replicate (5 - (lg_sl ([.ref (ad 0), .int (iI ((i : Int))), .int (iI (a))])).length) Slot.unset).toArray = ls at hl ⊢
  have hl : lv_has ls 5 [(0, .ref (ad 0)), (1, .int (iI ((i : Int)))), (2, .int (iI (a)))] := hl
  obtain ⟨q1, q2, q3, q4, q5, q6⟩ := id hpb
  refine lv_aload_n hx hb dX1_move_0 rfl (lv_at hl 0 rfl) ?_
  refine lv_iload_n hx hb dX1_move_1 rfl (lv_at hl 1 rfl) ?_
  refine zcallq (va_runV (As := [.int (iI ((i : Int)))]) (rest := []) ⟨hx, hb, hml, hown, hts⟩ (c_X1_existing_ok l D cy A ad ya yi pr _ i p0 hw (by omega) hp0) (cwV 1 hts gX1_move_X1_existing rfl rfl rfl (by decide +kernel) ⟨(Nat.le_of_ble_eq_true rfl), (Nat.le_of_ble_eq_true rfl)⟩) (zPV hE hS hw (ci := 1) (k0 := 0) rfl yE_0) rfl rfl hl.1 rfl (lv_room (Nat.le_of_ble_eq_true rfl)) dX1_move_2 ⟨(Nat.le_of_ble_eq_true rfl), (Nat.le_of_ble_eq_true rfl)⟩) hS (fun z_2 H1 locs hq hz1 hk1 hS => ?_)
  obtain ⟨hqe, hv_2⟩ := hq
  replace hqe := hqe.symm
  subst hqe
  subst hv_2
  rw [zrf]
  refine lv_astore_n (lv' := [(3, .ref (ad (10 + 3 * i))), (0, .ref (ad 0)), (1, .int (iI ((i : Int)))), (2, .int (iI (a)))]) hx hb dX1_move_5 rfl hl (by decide) rfl (fun ls hl => ?_)
  refine lv_iload_n hx hb dX1_move_6 rfl (lv_at hl 3 rfl) ?_
  refine zi_const hx hb dX1_move_7 ?_
  refine zi_sipush hx hb dX1_move_8 (by decide) ?_
  refine zcallv (va_runS (As := [.int (iI (a)), .int (iI (0)), .int (iI (900))]) (rest := []) ⟨hx, hb, hml, hown, hts⟩ (c_X1_requireRange_ok l D cy A ad _ (a) (0) (900) (by omega) (by first | decide | (constructor <;> omega)) (by first | decide | (constructor <;> omega))) (va_cwS 3 hts gX1_move_X1_requireRange rfl rfl rfl (by decide +kernel) ⟨(Nat.le_of_ble_eq_true rfl), (Nat.le_of_ble_eq_true rfl)⟩) (zPS hE hS) rfl rfl hl.1 rfl (lv_room (Nat.le_of_ble_eq_true rfl)) dX1_move_11 ⟨(Nat.le_of_ble_eq_true rfl), (Nat.le_of_ble_eq_true rfl)⟩) hS (fun H1 locs hq hz1 hk1 hS => ?_)
  replace hq := hq.symm
  subst hq
  refine lv_aload_n hx hb dX1_move_14 rfl (lv_at hl 0 rfl) ?_
  refine zgetN (own := RX1) (C := RX0) (T := TX0) (N := 13) (index := 104) (host := RX1) hx hb hts hinX0 hown hE hw (10 + 3 * i) (yE_p (by omega) hp0) rfl 3 (by decide) (by decide +kernel) rfl dX1_move_15 ?_
  refine zi_top (fun x_18 hx_18 => ?_)
  refine lv_istore (lv' := [(4, .int (iI (x_18))), (3, .ref (ad (10 + 3 * i))), (0, .ref (ad 0)), (1, .int (iI ((i : Int)))), (2, .int (iI (a)))]) hx hb dX1_move_18 hl (by decide) rfl (fun ls hl => ?_)
  refine lv_aload_n hx hb dX1_move_20 rfl (lv_at hl 1 rfl) ?_
  refine lv_iload_n hx hb dX1_move_21 rfl (lv_at hl 4 rfl) ?_
  refine zputN (own := RX1) (C := RX0) (T := TX0) (N := 13) (index := 104) (host := RX1) hx hb hts hinX0 tyX0 tyX0_ok nmX0 hown hE hS hw (10 + 3 * i) (yE_p (by omega) hp0) rfl 3 (by decide) (by decide +kernel) rfl (ty := .int) (by decide +kernel) rfl rfl (Nat.le_of_ble_eq_true rfl) dX1_move_22 (fun H locs hw hS => ?_)
  have hw := hw.cong (yU_f (by omega) hp0 3 (by decide) (by decide) (a))
  obtain ⟨pr_1, hpr_1⟩ : ∃ z, z = va_up pr i (some (va_up p0.1 3 (a), p0.2)) := ⟨_, rfl⟩
  obtain ⟨q_1, hq_1⟩ : ∃ z : PS, z = (va_up p0.1 3 (a), p0.2) := ⟨_, rfl⟩
  have hp_n1 : pr_1 i = some q_1 := by rw [hpr_1, hq_1, up_same]
  rw [← hpr_1] at hw
  have hpb1 : pB q_1 := by rw [hq_1]; refine ⟨?_, ?_, ?_, ?_, ?_, ?_⟩ <;> simp only [va_up] <;> first | exact q6 | (simp; omega) | (simpa using q6)
  refine lv_aload_n hx hb dX1_move_25 rfl (lv_at hl 2 rfl) ?_
  refine lv_aload_n hx hb dX1_move_26 rfl (lv_at hl 1 rfl) ?_
  refine zcallv (va_runV (As := [.ref (ad (10 + 3 * i))]) (rest := []) ⟨hx, hb, hml, hown, hts⟩ (c_X1_schedule l D cy A ad ya yi pr_1 _ T i q_1 hw (by omega) hp_n1 hpb1 hg hG ht) (cwV 1 hts gX1_move_X1_schedule rfl rfl rfl (by decide +kernel) ⟨(Nat.le_of_ble_eq_true rfl), (Nat.le_of_ble_eq_true rfl)⟩) (zPV hE hS hw (ci := 1) (k0 := 0) rfl yE_0) rfl rfl hl.1 rfl (lv_room (Nat.le_of_ble_eq_true rfl)) dX1_move_27 ⟨(Nat.le_of_ble_eq_true rfl), (Nat.le_of_ble_eq_true rfl)⟩) hS (fun H1 locs hq hz1 hk1 hS => ?_)
  obtain ⟨q_s27, hw, hsch, hgv⟩ := hq
  refine lv_iload hx hb dX1_move_30 (lv_at hl 0 rfl) ?_
  refine ziret hx hb hr hlocks hS (Nat.le_of_ble_eq_true rfl) (Nat.le_of_ble_eq_true rfl) (by first | decide | (constructor <;> omega)) ?_ dX1_move_32
  rw [hpr_1, up_up] at hw
  rw [hq_1] at hsch
  exact ⟨_, hw, hsch, by omega⟩

set_option maxHeartbeats 4000000 in
set_option maxRecDepth 100000 in
theorem c_X1_cancel_ok (l : Launch) (D : va_G) (cy : Nat → ClassId) (A : Nat → Prop) (ad : Nat → Nat) (ya : Nat → Nat → Int) (yi : Nat → Int) (pr : Nat → Option PS) (H0 : Heap) (i : Nat) (p0 : PS) (hw : zW D A ad (yE cy ad ya yi pr) H0) (hi : i < 10) (hp0 : pr i = some p0) (hpb : pB p0) : Met l yX1_cancel wsX1_cancel ({ frames := 2, cells := 0, slots := 0, locals := 42 }) (zPc D cy A [.ref (ad 0), .int (iI ((i : Int)))] H0) (zQi (fun z H1 => zW D A ad (yE cy ad ya yi (va_up pr i none)) H1 ∧ z = p0.1 1) A) 0 0 A := by
  refine Met.ofW (cc := cX1_cancel) (maxL := 3) (ret := (some .int)) (by decide) rfl ?_
  intro pg en s mt args below meth c s₁ B hml hv
  obtain ⟨rfl, hH, hE⟩ := hv
  subst hH
  have hx := B.exec
  have hb := B.bytes
  have hr := B.returns
  have hts := atoms_spec (ws := wsX1_cancel) B.pre
  have hown : s.vm.findClass RX1 = some mt.cls := findClass_of_methodNamed B.named
  have hlocks := B.notSynchronized
  have hinX0 : ∀ w ∈ u_ws RX0 TX0 13, w ∈ wsX1_cancel := by decide +kernel
  have hinX1 : ∀ w ∈ u_ws RX1 TX1 9, w ∈ wsX1_cancel := by decide +kernel
  have hS : va_S A s.heap s.heap [] := va_S.rf
  have hl := lv_entry ([.ref (ad 0), .int (iI ((i : Int)))]) (n := 3) (Nat.le_of_ble_eq_true rfl)
  rw [lg_entry_eq]
  generalize (lg_sl ([.ref (ad 0), .int (iI ((i : Int)))]) ++ List.replicate (3 - (lg_sl ([.ref (ad 0), .int (iI ((i : Int)))])).length) Slot.unset).toArray = ls at hl ⊢
  have hl : lv_has ls 3 [(0, .ref (ad 0)), (1, .int (iI ((i : Int))))] := hl
  obtain ⟨q1, q2, q3, q4, q5, q6⟩ := id hpb
  refine lv_aload_n hx hb dX1_cancel_0 rfl (lv_at hl 0 rfl) ?_
  refine lv_iload_n hx hb dX1_cancel_1 rfl (lv_at hl 1 rfl) ?_
  refine zcallq (va_runV (As := [.int (iI ((i : Int)))]) (rest := []) ⟨hx, hb, hml, hown, hts⟩ (c_X1_existing_ok l D cy A ad ya yi pr _ i p0 hw (by omega) hp0) (cwV 1 hts gX1_cancel_X1_existing rfl rfl rfl (by decide +kernel) ⟨(Nat.le_of_ble_eq_true rfl), (Nat.le_of_ble_eq_true rfl)⟩) (zPV hE hS hw (ci := 1) (k0 := 0) rfl yE_0) rfl rfl hl.1 rfl (lv_room (Nat.le_of_ble_eq_true rfl)) dX1_cancel_2 ⟨(Nat.le_of_ble_eq_true rfl), (Nat.le_of_ble_eq_true rfl)⟩) hS (fun z_2 H1 locs hq hz1 hk1 hS => ?_)
  obtain ⟨hqe, hv_2⟩ := hq
  replace hqe := hqe.symm
  subst hqe
  subst hv_2
  rw [zrf]
  refine lv_astore_n (lv' := [(2, .ref (ad (10 + 3 * i))), (0, .ref (ad 0)), (1, .int (iI ((i : Int))))]) hx hb dX1_cancel_5 rfl hl (by decide) rfl (fun ls hl => ?_)
  refine lv_aload_n hx hb dX1_cancel_6 rfl (lv_at hl 1 rfl) ?_
  refine zget (C := RX1) (T := TX1) (N := 9) hx hb hts hinX1 hown hE hw 0 yE_0 rfl 4 (by decide) (hts (.fieldLink RX1 24 "FormworkYard" "pourList" "[LFormworkYard$Pour;") (by decide +kernel)) rfl dX1_cancel_7 ?_
  refine lv_iload_n hx hb dX1_cancel_10 rfl (lv_at hl 2 rfl) ?_
  refine lv_null hx hb dX1_cancel_11 ?_
  refine zaastN hx hb hE hS hw 5 yE_5 i rfl (by omega) (by omega) dX1_cancel_12 (fun H locs hwR hS => ?_)
  refine lv_aload_n hx hb dX1_cancel_13 rfl (lv_at hl 0 rfl) ?_
  refine zgetN (own := RX1) (C := RX0) (T := TX0) (N := 13) (index := 107) (host := RX1) hx hb hts hinX0 hown hE hwR (10 + 3 * i) ((up_ne _ _ (by omega)).trans (yE_p (by omega) hp0)) rfl 1 (by decide) (by decide +kernel) rfl dX1_cancel_14 ?_
  have hw := yU_c hwR
  refine ziret hx hb hr hlocks hS (Nat.le_of_ble_eq_true rfl) (Nat.le_of_ble_eq_true rfl) (by first | decide | (constructor <;> omega)) ?_ dX1_cancel_17
  exact ⟨hw, rfl⟩

