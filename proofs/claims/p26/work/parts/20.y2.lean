set_option maxHeartbeats 4000000 in
set_option maxRecDepth 100000 in
theorem c_X1_schedule (l : Launch) (D : va_G) (cy : Nat → ClassId) (A : Nat → Prop) (ad : Nat → Nat) (ya : Nat → Nat → Int) (yi : Nat → Int) (pr : Nat → Option PS) (H0 : Heap) (T : Nat → Int) (i : Nat) (p0 : PS) (hw : zW D A ad (yE cy ad ya yi pr) H0) (hi : i < 11) (hp0 : pr i = some p0) (hpb : pB p0) (hg : yB yi) (hG : gnd T ya) (ht : tOK T) : Met l yX1_schedule wsX1_schedule ({ frames := 3, cells := 0, slots := 0, locals := 69 }) (zPc D cy A [.ref (ad 0), .ref (ad (10 + 3 * i))] H0) (zQv (fun H1 => ∃ q, zW D A ad (yE cy ad ya yi (va_up pr i (some q))) H1 ∧ schR T yi p0 q ∧ q.2.2.2 = p0.2.2.2) A) 0 0 A := by
  refine Met.ofW (cc := cX1_schedule) (maxL := 2) (ret := none) (by decide) rfl ?_
  intro pg en s mt args below meth c s₁ B hml hv
  obtain ⟨rfl, hH, hE⟩ := hv
  subst hH
  have hx := B.exec
  have hb := B.bytes
  have hr := B.returns
  have hts := atoms_spec (ws := wsX1_schedule) B.pre
  have hown : s.vm.findClass RX1 = some mt.cls := findClass_of_methodNamed B.named
  have hlocks := B.notSynchronized
  have hinX0 : ∀ w ∈ u_ws RX0 TX0 13, w ∈ wsX1_schedule := by decide +kernel
  have hS : va_S A s.heap s.heap [] := va_S.rf
  have hl := lv_entry ([.ref (ad 0), .ref (ad (10 + 3 * i))]) (n := 2) (Nat.le_of_ble_eq_true rfl)
  rw [lg_entry_eq]
  generalize (lg_sl ([.ref (ad 0), .ref (ad (10 + 3 * i))]) ++ List.replicate (2 - (lg_sl ([.ref (ad 0), .ref (ad (10 + 3 * i))])).length) Slot.unset).toArray = ls at hl ⊢
  have hl : lv_has ls 2 [(0, .ref (ad 0)), (1, .ref (ad (10 + 3 * i)))] := hl
  obtain ⟨q1, q2, q3, q4, q5, q6⟩ := id hpb
  obtain ⟨g1, g2, g3, g4⟩ := id hg
  obtain ⟨e1, e2, e3, e4, e5, e6⟩ := endY_b hg hpb
  have hkb : 0 ≤ kY T yi p0 := by have := (strikeS_b T (p0.1 2) (endY yi p0)).1; unfold kY; omega
  refine lv_aload_n hx hb dX1_schedule_0 rfl (lv_at hl 1 rfl) ?_
  refine lv_aload_n hx hb dX1_schedule_1 rfl (lv_at hl 1 rfl) ?_
  refine zgetN (own := RX1) (C := RX0) (T := TX0) (N := 13) (index := 104) (host := RX1) hx hb hts hinX0 hown hE hw (10 + 3 * i) (yE_p (by omega) hp0) rfl 3 (by decide) (by decide +kernel) rfl dX1_schedule_2 ?_
  refine lv_aload_n hx hb dX1_schedule_5 rfl (lv_at hl 0 rfl) ?_
  refine lv_aload_n hx hb dX1_schedule_6 rfl (lv_at hl 1 rfl) ?_
  refine zgetN (own := RX1) (C := RX0) (T := TX0) (N := 13) (index := 110) (host := RX1) hx hb hts hinX0 hown hE hw (10 + 3 * i) (yE_p (by omega) hp0) rfl 0 (by decide) (by decide +kernel) rfl dX1_schedule_7 ?_
  refine zcalli (va_runV (As := [.int (iI (p0.1 0))]) (rest := [.int (iI (p0.1 3)), .ref (ad (10 + 3 * i))]) ⟨hx, hb, hml, hown, hts⟩ (c_X1_startedHours l D cy A ad ya yi pr _ (p0.1 0) hw (by omega) hg) (cwV 1 hts gX1_schedule_X1_startedHours rfl rfl rfl (by decide +kernel) ⟨(Nat.le_of_ble_eq_true rfl), (Nat.le_of_ble_eq_true rfl)⟩) (zPV hE hS hw (ci := 1) (k0 := 0) rfl yE_0) rfl rfl hl.1 rfl (lv_room (Nat.le_of_ble_eq_true rfl)) dX1_schedule_10 ⟨(Nat.le_of_ble_eq_true rfl), (Nat.le_of_ble_eq_true rfl)⟩) hS (fun z_10 H1 locs hz_10 hq hz1 hk1 hS => ?_)
  obtain ⟨hqe, hv_10⟩ := hq
  replace hqe := hqe.symm
  subst hqe
  refine zi_add hx hb dX1_schedule_13 ?_
  refine lv_aload_n hx hb dX1_schedule_14 rfl (lv_at hl 1 rfl) ?_
  refine zcalli (va_runVN (As := []) (rest := [.int (iI ((p0.1 3) + z_10)), .ref (ad (10 + 3 * i))]) ⟨hx, hb, hml, hown, hts⟩ (c_X0_hoursOfBreaks l D cy A ad ya yi pr _ i p0 hw (by omega) hp0 hpb) ⟨va_cnB 0 hts gX1_schedule_X0_hoursOfBreaks_n196 rfl rfl rfl (hE.2.1 (.methodLinkNest RX1 196 yX0_hoursOfBreaks RX1) (by decide +kernel)) (hts (.initialized RX0) (by decide +kernel)) (by decide +kernel) ⟨(Nat.le_of_ble_eq_true rfl), (Nat.le_of_ble_eq_true rfl)⟩, hts (.instanceMethod yX0_hoursOfBreaks) (by decide +kernel), hts (.selects RX0 yX0_hoursOfBreaks yX0_hoursOfBreaks) (by decide +kernel)⟩ (zPV hE hS hw (ci := 0) (k0 := 10 + 3 * i) rfl (yE_p (by omega) hp0)) rfl rfl hl.1 rfl (lv_room (Nat.le_of_ble_eq_true rfl)) dX1_schedule_15 ⟨(Nat.le_of_ble_eq_true rfl), (Nat.le_of_ble_eq_true rfl)⟩) hS (fun z_15 H1 locs hz_15 hq hz1 hk1 hS => ?_)
  obtain ⟨hqe, hv_15⟩ := hq
  replace hqe := hqe.symm
  subst hqe
  refine zi_add hx hb dX1_schedule_18 ?_
  refine zputN (own := RX1) (C := RX0) (T := TX0) (N := 13) (index := 120) (host := RX1) hx hb hts hinX0 tyX0 tyX0_ok nmX0 hown hE hS hw (10 + 3 * i) (yE_p (by omega) hp0) rfl 7 (by decide) (by decide +kernel) rfl (ty := .int) (by decide +kernel) rfl rfl (Nat.le_of_ble_eq_true rfl) dX1_schedule_19 (fun H locs hw hS => ?_)
  have hw := hw.cong (yU_f (by omega) hp0 7 (by decide) (by decide) (((p0.1 3) + z_10) + z_15))
  obtain ⟨pr_1, hpr_1⟩ : ∃ z, z = va_up pr i (some (va_up p0.1 7 (((p0.1 3) + z_10) + z_15), p0.2)) := ⟨_, rfl⟩
  obtain ⟨q_1, hq_1⟩ : ∃ z : PS, z = (va_up p0.1 7 (((p0.1 3) + z_10) + z_15), p0.2) := ⟨_, rfl⟩
  have hp_n1 : pr_1 i = some q_1 := by rw [hpr_1, hq_1, up_same]
  rw [← hpr_1] at hw
  have f7 : q_1.1 7 = endY yi p0 := by rw [hq_1]; simp only [up_same]; rw [hv_10, hv_15]; rfl
  have fk1 : ∀ j, j ≠ 7 → q_1.1 j = p0.1 j := fun j hj => by rw [hq_1]; exact up_ne _ _ hj
  have w1 := fk1 2 (by decide)
  refine lv_aload_n hx hb dX1_schedule_22 rfl (lv_at hl 1 rfl) ?_
  refine lv_aload_n hx hb dX1_schedule_23 rfl (lv_at hl 0 rfl) ?_
  refine lv_aload_n hx hb dX1_schedule_24 rfl (lv_at hl 1 rfl) ?_
  refine zgetN (own := RX1) (C := RX0) (T := TX0) (N := 13) (index := 120) (host := RX1) hx hb hts hinX0 hown hE hw (10 + 3 * i) (yE_p (by omega) hp_n1) rfl 7 (by decide) (by decide +kernel) rfl dX1_schedule_25 ?_
  refine lv_aload_n hx hb dX1_schedule_28 rfl (lv_at hl 1 rfl) ?_
  refine zgetN (own := RX1) (C := RX0) (T := TX0) (N := 13) (index := 199) (host := RX1) hx hb hts hinX0 hown hE hw (10 + 3 * i) (yE_p (by omega) hp_n1) rfl 2 (by decide) (by decide +kernel) rfl dX1_schedule_29 ?_
  refine zcalli (va_runV (As := [.int (iI (q_1.1 7)), .int (iI (q_1.1 2))]) (rest := [.ref (ad (10 + 3 * i))]) ⟨hx, hb, hml, hown, hts⟩ (c_X1_strikeHour l D cy A ad ya yi pr_1 _ T (q_1.1 7) (q_1.1 2) hw (by omega) (by omega) hG ht) (cwV 2 hts gX1_schedule_X1_strikeHour rfl rfl rfl (by decide +kernel) ⟨(Nat.le_of_ble_eq_true rfl), (Nat.le_of_ble_eq_true rfl)⟩) (zPV hE hS hw (ci := 1) (k0 := 0) rfl yE_0) rfl rfl hl.1 rfl (lv_room (Nat.le_of_ble_eq_true rfl)) dX1_schedule_32 ⟨(Nat.le_of_ble_eq_true rfl), (Nat.le_of_ble_eq_true rfl)⟩) hS (fun z_32 H1 locs hz_32 hq hz1 hk1 hS => ?_)
  obtain ⟨hqe, hv_32⟩ := hq
  replace hqe := hqe.symm
  subst hqe
  refine zputN (own := RX1) (C := RX0) (T := TX0) (N := 13) (index := 132) (host := RX1) hx hb hts hinX0 tyX0 tyX0_ok nmX0 hown hE hS hw (10 + 3 * i) (yE_p (by omega) hp_n1) rfl 8 (by decide) (by decide +kernel) rfl (ty := .int) (by decide +kernel) rfl rfl (Nat.le_of_ble_eq_true rfl) dX1_schedule_35 (fun H locs hw hS => ?_)
  have hw := hw.cong (yU_f (by omega) hp_n1 8 (by decide) (by decide) (z_32))
  obtain ⟨pr_2, hpr_2⟩ : ∃ z, z = va_up pr_1 i (some (va_up q_1.1 8 (z_32), q_1.2)) := ⟨_, rfl⟩
  obtain ⟨q_2, hq_2⟩ : ∃ z : PS, z = (va_up q_1.1 8 (z_32), q_1.2) := ⟨_, rfl⟩
  have hp_n2 : pr_2 i = some q_2 := by rw [hpr_2, hq_2, up_same]
  rw [← hpr_2] at hw
  have f8 : q_2.1 8 = (if kY T yi p0 < 1000 then kY T yi p0 else -1) := by rw [hq_2]; simp only [up_same]; rw [hv_32, f7, w1]; rfl
  have fk2 : ∀ j, j ≠ 7 → j ≠ 8 → q_2.1 j = p0.1 j := fun j h1 h2 => by rw [hq_2]; exact (up_ne _ _ h2).trans (fk1 j h1)
  have w3 := fk2 3 (by decide) (by decide)
  refine lv_aload_n hx hb dX1_schedule_38 rfl (lv_at hl 1 rfl) ?_
  refine lv_aload_n hx hb dX1_schedule_39 rfl (lv_at hl 0 rfl) ?_
  refine lv_aload_n hx hb dX1_schedule_40 rfl (lv_at hl 1 rfl) ?_
  refine zgetN (own := RX1) (C := RX0) (T := TX0) (N := 13) (index := 104) (host := RX1) hx hb hts hinX0 hown hE hw (10 + 3 * i) (yE_p (by omega) hp_n2) rfl 3 (by decide) (by decide +kernel) rfl dX1_schedule_41 ?_
  refine zcalli (va_runV (As := [.int (iI (q_2.1 3))]) (rest := [.ref (ad (10 + 3 * i))]) ⟨hx, hb, hml, hown, hts⟩ (c_X1_standHour l D cy A ad ya yi pr_2 _ (q_2.1 3) hw (by omega) hg) (cwV 1 hts gX1_schedule_X1_standHour rfl rfl rfl (by decide +kernel) ⟨(Nat.le_of_ble_eq_true rfl), (Nat.le_of_ble_eq_true rfl)⟩) (zPV hE hS hw (ci := 1) (k0 := 0) rfl yE_0) rfl rfl hl.1 rfl (lv_room (Nat.le_of_ble_eq_true rfl)) dX1_schedule_44 ⟨(Nat.le_of_ble_eq_true rfl), (Nat.le_of_ble_eq_true rfl)⟩) hS (fun z_44 H1 locs hz_44 hq hz1 hk1 hS => ?_)
  obtain ⟨hqe, hv_44⟩ := hq
  replace hqe := hqe.symm
  subst hqe
  refine zputN (own := RX1) (C := RX0) (T := TX0) (N := 13) (index := 147) (host := RX1) hx hb hts hinX0 tyX0 tyX0_ok nmX0 hown hE hS hw (10 + 3 * i) (yE_p (by omega) hp_n2) rfl 9 (by decide) (by decide +kernel) rfl (ty := .int) (by decide +kernel) rfl rfl (Nat.le_of_ble_eq_true rfl) dX1_schedule_47 (fun H locs hw hS => ?_)
  have hw := hw.cong (yU_f (by omega) hp_n2 9 (by decide) (by decide) (z_44))
  obtain ⟨pr_3, hpr_3⟩ : ∃ z, z = va_up pr_2 i (some (va_up q_2.1 9 (z_44), q_2.2)) := ⟨_, rfl⟩
  obtain ⟨q_3, hq_3⟩ : ∃ z : PS, z = (va_up q_2.1 9 (z_44), q_2.2) := ⟨_, rfl⟩
  have hp_n3 : pr_3 i = some q_3 := by rw [hpr_3, hq_3, up_same]
  rw [← hpr_3] at hw
  have f8b : q_3.1 8 = (if kY T yi p0 < 1000 then kY T yi p0 else -1) := by rw [hq_3, ← f8]; show va_up q_2.1 9 z_44 8 = q_2.1 8; exact up_ne _ _ (by decide)
  have f8c : -1 ≤ q_3.1 8 ∧ q_3.1 8 < 1000 := by rw [f8b]; split <;> omega
  refine lv_aload_n hx hb dX1_schedule_50 rfl (lv_at hl 1 rfl) ?_
  refine lv_aload_n hx hb dX1_schedule_51 rfl (lv_at hl 0 rfl) ?_
  refine lv_aload_n hx hb dX1_schedule_52 rfl (lv_at hl 1 rfl) ?_
  refine zgetN (own := RX1) (C := RX0) (T := TX0) (N := 13) (index := 132) (host := RX1) hx hb hts hinX0 hown hE hw (10 + 3 * i) (yE_p (by omega) hp_n3) rfl 8 (by decide) (by decide +kernel) rfl dX1_schedule_53 ?_
  refine zcalli (va_runV (As := [.int (iI (q_3.1 8))]) (rest := [.ref (ad (10 + 3 * i))]) ⟨hx, hb, hml, hown, hts⟩ (c_X1_releaseHour l D cy A ad ya yi pr_3 _ (q_3.1 8) (kY T yi p0) hw ⟨hkb, f8b⟩ hg) (cwV 1 hts gX1_schedule_X1_releaseHour rfl rfl rfl (by decide +kernel) ⟨(Nat.le_of_ble_eq_true rfl), (Nat.le_of_ble_eq_true rfl)⟩) (zPV hE hS hw (ci := 1) (k0 := 0) rfl yE_0) rfl rfl hl.1 rfl (lv_room (Nat.le_of_ble_eq_true rfl)) dX1_schedule_56 ⟨(Nat.le_of_ble_eq_true rfl), (Nat.le_of_ble_eq_true rfl)⟩) hS (fun z_56 H1 locs hz_56 hq hz1 hk1 hS => ?_)
  obtain ⟨hqe, hv_56⟩ := hq
  replace hqe := hqe.symm
  subst hqe
  refine zputN (own := RX1) (C := RX0) (T := TX0) (N := 13) (index := 135) (host := RX1) hx hb hts hinX0 tyX0 tyX0_ok nmX0 hown hE hS hw (10 + 3 * i) (yE_p (by omega) hp_n3) rfl 10 (by decide) (by decide +kernel) rfl (ty := .int) (by decide +kernel) rfl rfl (Nat.le_of_ble_eq_true rfl) dX1_schedule_59 (fun H locs hw hS => ?_)
  have hw := hw.cong (yU_f (by omega) hp_n3 10 (by decide) (by decide) (z_56))
  obtain ⟨pr_4, hpr_4⟩ : ∃ z, z = va_up pr_3 i (some (va_up q_3.1 10 (z_56), q_3.2)) := ⟨_, rfl⟩
  obtain ⟨q_4, hq_4⟩ : ∃ z : PS, z = (va_up q_3.1 10 (z_56), q_3.2) := ⟨_, rfl⟩
  have hp_n4 : pr_4 i = some q_4 := by rw [hpr_4, hq_4, up_same]
  rw [← hpr_4] at hw
  have hpr : pr_4 = va_up pr i (some q_4) := by rw [hq_4, hpr_4, hpr_3, hpr_2, hpr_1, up_up, up_up, up_up]
  rw [hpr] at hw
  have r7 : q_4.1 7 = endY yi p0 := by rw [hq_4, hq_3, hq_2]; exact f7
  have r8 : q_4.1 8 = (if kY T yi p0 < 1000 then kY T yi p0 else -1) := by rw [hq_4]; exact f8b
  have r9 : q_4.1 9 = standS (yi 7) (p0.1 3) := by rw [hq_4, hq_3]; show z_44 = _; rw [hv_44, w3]
  have r10 : q_4.1 10 = min 1000 (freeS (yi 8) (kY T yi p0)) := by rw [hq_4]; exact hv_56
  have rk : ∀ j, j < 5 → q_4.1 j = p0.1 j := fun j hj => by rw [hq_4, hq_3]; exact (up_ne _ _ (by omega)).trans ((up_ne _ _ (by omega)).trans (fk2 j (by omega) (by omega)))
  have rt2 : q_4.2 = p0.2 := by rw [hq_4, hq_3, hq_2, hq_1]
  refine zvret hx hb hr hlocks hS (Nat.le_of_ble_eq_true rfl) (Nat.le_of_ble_eq_true rfl) ?_ dX1_schedule_62
  exact ⟨q_4, hw, ⟨⟨rk 0 (by decide), rk 1 (by decide), rk 2 (by decide), rk 3 (by decide), rk 4 (by decide)⟩, by rw [rt2], by rw [rt2], r7, r8, r9, r10⟩, by rw [rt2]⟩

set_option maxHeartbeats 4000000 in
set_option maxRecDepth 100000 in
theorem c_X1_scheduleAll (l : Launch) (D : va_G) (cy : Nat → ClassId) (A : Nat → Prop) (ad : Nat → Nat) (ya : Nat → Nat → Int) (yi : Nat → Int) (pr : Nat → Option PS) (H0 : Heap) (T : Nat → Int) (hw : zW D A ad (yE cy ad ya yi pr) H0) (hpa : ∀ j p, j < 10 → pr j = some p → pB p) (hg : yB yi) (hG : gnd T ya) (ht : tOK T) : Met l yX1_scheduleAll wsX1_scheduleAll ({ frames := 4, cells := 0, slots := 0, locals := 90 }) (zPc D cy A [.ref (ad 0)] H0) (zQv (fun H1 => ∃ pq, zW D A ad (yE cy ad ya yi pq) H1 ∧ schA T yi pr pq 10) A) 0 0 A := by
  refine Met.ofW (cc := cX1_scheduleAll) (maxL := 5) (ret := none) (by decide) rfl ?_
  intro pg en s mt args below meth c s₁ B hml hv
  obtain ⟨rfl, hH, hE⟩ := hv
  subst hH
  have hx := B.exec
  have hb := B.bytes
  have hr := B.returns
  have hts := atoms_spec (ws := wsX1_scheduleAll) B.pre
  have hown : s.vm.findClass RX1 = some mt.cls := findClass_of_methodNamed B.named
  have hlocks := B.notSynchronized
  have hinX1 : ∀ w ∈ u_ws RX1 TX1 9, w ∈ wsX1_scheduleAll := by decide +kernel
  have hS : va_S A s.heap s.heap [] := va_S.rf
  have hl := lv_entry ([.ref (ad 0)]) (n := 5) (Nat.le_of_ble_eq_true rfl)
  rw [lg_entry_eq]
  generalize (lg_sl ([.ref (ad 0)]) ++ List.replicate (5 - (lg_sl ([.ref (ad 0)])).length) Slot.unset).toArray = ls at hl ⊢
  have hl : lv_has ls 5 [(0, .ref (ad 0))] := hl
  refine lv_aload_n hx hb dX1_scheduleAll_0 rfl (lv_at hl 0 rfl) ?_
  refine zget (C := RX1) (T := TX1) (N := 9) hx hb hts hinX1 hown hE hw 0 yE_0 rfl 4 (by decide) (hts (.fieldLink RX1 24 "FormworkYard" "pourList" "[LFormworkYard$Pour;") (by decide +kernel)) rfl dX1_scheduleAll_1 ?_
  refine lv_astore_n (lv' := [(1, .ref (ad 5)), (0, .ref (ad 0))]) hx hb dX1_scheduleAll_4 rfl hl (by decide) rfl (fun ls hl => ?_)
  refine lv_aload_n hx hb dX1_scheduleAll_5 rfl (lv_at hl 0 rfl) ?_
  refine zalen hx hb hE hw 5 2 yE_5 rfl (z := 10) rfl dX1_scheduleAll_6 ?_
  refine lv_istore_n (lv' := [(2, .int (iI (10))), (1, .ref (ad 5)), (0, .ref (ad 0))]) hx hb dX1_scheduleAll_7 rfl hl (by decide) rfl (fun ls hl => ?_)
  refine zi_const hx hb dX1_scheduleAll_8 ?_
  refine lv_istore_n (lv' := [(3, .int (iI (0))), (2, .int (iI (10))), (1, .ref (ad 5)), (0, .ref (ad 0))]) hx hb dX1_scheduleAll_9 rfl hl (by decide) rfl (fun ls hl => ?_)
  have loop_10 : ∀ (n : Nat) (i : Nat) (pq : Nat → Option PS) (H : Heap) (locs : List Loc) (ls : Array Slot), 10 - i < n → (i ≤ 10) → (schA T yi pr pq i) → zW D A ad (yE cy ad ya yi pq) H → va_S A s.heap H locs → lv_has ls 5 [(3, .int (iI ((i : Int)))), (2, .int (iI (10))), (1, .ref (ad 5)), (0, .ref (ad 0))] → W pg l en (headSpec wsX1_scheduleAll ({ frames := 4, cells := 0, slots := 0, locals := 90 })).room s mt ([.ref (ad 0)] : List Value).toArray below meth c H locs 0 0 (MQ below (zQv (fun H1 => ∃ pq, zW D A ad (yE cy ad ya yi pq) H1 ∧ schA T yi pr pq 10) A) ([.ref (ad 0)] : List Value).toArray s 0 0 A) (F0 mt 10 ls []) := by
    intro n
    induction n with
    | zero =>
      intro i pq H locs ls hm hi hsa
      exfalso; omega
    | succ n ih =>
      intro i pq H locs ls hm hi hsa hw hS hl
      refine lv_iload_n hx hb dX1_scheduleAll_10 rfl (lv_at hl 0 rfl) ?_
      refine lv_iload_n hx hb dX1_scheduleAll_11 rfl (lv_at hl 1 rfl) ?_
      refine zc_ge (tgt := 37) hx hb dX1_scheduleAll_12 (by decide) (by first | decide | (constructor <;> omega)) (by first | decide | (constructor <;> omega)) (fun c_12 => ?_) (fun c_12 => ?_)
      · refine zvret hx hb hr hlocks hS (Nat.le_of_ble_eq_true rfl) (Nat.le_of_ble_eq_true rfl) ?_ dX1_scheduleAll_37
        exact ⟨_, hw, by rw [show i = 10 by omega] at hsa; exact hsa⟩
      · refine lv_aload_n hx hb dX1_scheduleAll_15 rfl (lv_at hl 2 rfl) ?_
        refine lv_iload_n hx hb dX1_scheduleAll_16 rfl (lv_at hl 0 rfl) ?_
        refine zaald hx hb hE hw 5 yE_5 i rfl (by omega) (by omega) dX1_scheduleAll_17 ?_
        rcases hp_17 : pq i with _ | p_17
        · rw [yR_0 hp_17]
          refine lv_astoreN (lv' := [(4, .null), (3, .int (iI ((i : Int)))), (2, .int (iI (10))), (1, .ref (ad 5)), (0, .ref (ad 0))]) hx hb dX1_scheduleAll_18 hl (by decide) rfl (fun ls hl => ?_)
          refine lv_aloadN hx hb dX1_scheduleAll_20 (lv_at hl 0 rfl) ?_
          refine lv_ifnullN (tgt := 31) hx hb dX1_scheduleAll_22 (by decide) ?_
          refine zi_iinc (lv' := [(3, .int (iI ((i : Int) + 1))), (4, .null), (2, .int (iI (10))), (1, .ref (ad 5)), (0, .ref (ad 0))]) hx hb dX1_scheduleAll_31 hl (k := 1) rfl (by decide) rfl (fun ls hl => ?_)
          refine lv_goto (tgt := 10) hx hb dX1_scheduleAll_34 (by decide) ?_
          exact ih (i + 1) pq _ _ _ (by omega) (by omega) (schA_n hsa (by omega) hp_17) hw hS (lv_sub hl [0, 2, 3, 4] rfl)
        · rw [yR_1 hp_17]
          have hpb := hpa i p_17 (by omega) (schA_at hsa (by omega) hp_17)
          refine lv_astore (lv' := [(4, .ref (ad (10 + 3 * i))), (3, .int (iI ((i : Int)))), (2, .int (iI (10))), (1, .ref (ad 5)), (0, .ref (ad 0))]) hx hb dX1_scheduleAll_18 hl (by decide) rfl (fun ls hl => ?_)
          refine lv_aload hx hb dX1_scheduleAll_20 (lv_at hl 0 rfl) ?_
          refine lv_ifnull hx hb dX1_scheduleAll_22 ?_
          refine lv_aload_n hx hb dX1_scheduleAll_25 rfl (lv_at hl 4 rfl) ?_
          refine lv_aload hx hb dX1_scheduleAll_26 (lv_at hl 0 rfl) ?_
          refine zcallv (va_runV (As := [.ref (ad (10 + 3 * i))]) (rest := []) ⟨hx, hb, hml, hown, hts⟩ (c_X1_schedule l D cy A ad ya yi pq _ T i p_17 hw (by omega) hp_17 hpb hg hG ht) (cwV 1 hts gX1_scheduleAll_X1_schedule rfl rfl rfl (by decide +kernel) ⟨(Nat.le_of_ble_eq_true rfl), (Nat.le_of_ble_eq_true rfl)⟩) (zPV hE hS hw (ci := 1) (k0 := 0) rfl yE_0) rfl rfl hl.1 rfl (lv_room (Nat.le_of_ble_eq_true rfl)) dX1_scheduleAll_28 ⟨(Nat.le_of_ble_eq_true rfl), (Nat.le_of_ble_eq_true rfl)⟩) hS (fun H1 locs hq hz1 hk1 hS => ?_)
          obtain ⟨q_s28, hw, hsch, hgv⟩ := hq
          refine zi_iinc (lv' := [(3, .int (iI ((i : Int) + 1))), (4, .ref (ad (10 + 3 * i))), (2, .int (iI (10))), (1, .ref (ad 5)), (0, .ref (ad 0))]) hx hb dX1_scheduleAll_31 hl (k := 1) rfl (by decide) rfl (fun ls hl => ?_)
          refine lv_goto (tgt := 10) hx hb dX1_scheduleAll_34 (by decide) ?_
          exact ih (i + 1) ((va_up pq i (some q_s28))) _ _ _ (by omega) (by omega) (schA_s hsa (by omega) hp_17 hsch) hw hS (lv_sub hl [0, 2, 3, 4] rfl)
  exact loop_10 11 0 pr _ _ _ (by omega) (by omega) schA_0 hw hS (lv_sub hl [0, 1, 2, 3] rfl)

set_option maxHeartbeats 4000000 in
set_option maxRecDepth 100000 in
theorem c_X1_sumGains (l : Launch) (D : va_G) (cy : Nat → ClassId) (A : Nat → Prop) (ad : Nat → Nat) (ya : Nat → Nat → Int) (yi : Nat → Int) (pr : Nat → Option PS) (H0 : Heap) (hw : zW D A ad (yE cy ad ya yi pr) H0) (ht : tOK (ya 0)) : Met l yX1_sumGains wsX1_sumGains ({ frames := 1, cells := 0, slots := 0, locals := 21 }) (zPc D cy A [.ref (ad 0)] H0) (zQv (fun H1 => ∃ yb, zW D A ad (yE cy ad yb yi pr) H1 ∧ (∀ r, r ≠ 1 → yb r = ya r) ∧ gnd (ya 0) yb) A) 0 0 A := by
  refine Met.ofW (cc := cX1_sumGains) (maxL := 2) (ret := none) (by decide) rfl ?_
  intro pg en s mt args below meth c s₁ B hml hv
  obtain ⟨rfl, hH, hE⟩ := hv
  subst hH
  have hx := B.exec
  have hb := B.bytes
  have hr := B.returns
  have hts := atoms_spec (ws := wsX1_sumGains) B.pre
  have hown : s.vm.findClass RX1 = some mt.cls := findClass_of_methodNamed B.named
  have hlocks := B.notSynchronized
  have hinX1 : ∀ w ∈ u_ws RX1 TX1 9, w ∈ wsX1_sumGains := by decide +kernel
  have hS : va_S A s.heap s.heap [] := va_S.rf
  have hl := lv_entry ([.ref (ad 0)]) (n := 2) (Nat.le_of_ble_eq_true rfl)
  rw [lg_entry_eq]
  generalize (lg_sl ([.ref (ad 0)]) ++ List.replicate (2 - (lg_sl ([.ref (ad 0)])).length) Slot.unset).toArray = ls at hl ⊢
  have hl : lv_has ls 2 [(0, .ref (ad 0))] := hl
  refine lv_aload_n hx hb dX1_sumGains_0 rfl (lv_at hl 0 rfl) ?_
  refine zget (C := RX1) (T := TX1) (N := 9) hx hb hts hinX1 hown hE hw 0 yE_0 rfl 1 (by decide) (hts (.fieldLink RX1 13 "FormworkYard" "gained" "[I") (by decide +kernel)) rfl dX1_sumGains_1 ?_
  refine zi_const hx hb dX1_sumGains_4 ?_
  refine zi_const hx hb dX1_sumGains_5 ?_
  refine ziast hx hb hE hS hw 2 yE_2 0 rfl (by omega) (by omega) dX1_sumGains_6 (fun H locs hw hS => ?_)
  have hw := hw.cong (yU_a 1 (by decide) (0) (0) rfl)
  obtain ⟨ya_1, hya_1⟩ : ∃ z : Nat → Nat → Int, z = va_up ya 1 (va_up (ya 1) (0) (0)) := ⟨_, rfl⟩
  rw [← hya_1] at hw
  refine zi_const hx hb dX1_sumGains_7 ?_
  refine lv_istore_n (lv' := [(1, .int (iI (0))), (0, .ref (ad 0))]) hx hb dX1_sumGains_8 rfl hl (by decide) rfl (fun ls hl => ?_)
  have loop_9 : ∀ (n : Nat) (i : Nat) (yb : Nat → Nat → Int) (H : Heap) (locs : List Loc) (ls : Array Slot), 1000 - i < n → (i ≤ 1000) → (∀ r, r ≠ 1 → yb r = ya r) → (∀ j, j ≤ i → yb 1 j = gs (ya 0) j) → zW D A ad (yE cy ad yb yi pr) H → va_S A s.heap H locs → lv_has ls 2 [(1, .int (iI ((i : Int)))), (0, .ref (ad 0))] → W pg l en (headSpec wsX1_sumGains ({ frames := 1, cells := 0, slots := 0, locals := 21 })).room s mt ([.ref (ad 0)] : List Value).toArray below meth c H locs 0 0 (MQ below (zQv (fun H1 => ∃ yb, zW D A ad (yE cy ad yb yi pr) H1 ∧ (∀ r, r ≠ 1 → yb r = ya r) ∧ gnd (ya 0) yb) A) ([.ref (ad 0)] : List Value).toArray s 0 0 A) (F0 mt 9 ls []) := by
    intro n
    induction n with
    | zero =>
      intro i yb H locs ls hm hi hr9 hgs
      exfalso; omega
    | succ n ih =>
      intro i yb H locs ls hm hi hr9 hgs hw hS hl
      refine lv_iload_n hx hb dX1_sumGains_9 rfl (lv_at hl 0 rfl) ?_
      refine zi_sipush hx hb dX1_sumGains_10 (by decide) ?_
      refine zc_ge (tgt := 50) hx hb dX1_sumGains_13 (by decide) (by first | decide | (constructor <;> omega)) (by first | decide | (constructor <;> omega)) (fun c_13 => ?_) (fun c_13 => ?_)
      · refine zvret hx hb hr hlocks hS (Nat.le_of_ble_eq_true rfl) (Nat.le_of_ble_eq_true rfl) ?_ dX1_sumGains_50
        exact ⟨_, hw, hr9, fun n hn => hgs n (by omega)⟩
      · refine lv_aload_n hx hb dX1_sumGains_16 rfl (lv_at hl 1 rfl) ?_
        refine zget (C := RX1) (T := TX1) (N := 9) hx hb hts hinX1 hown hE hw 0 yE_0 rfl 1 (by decide) (hts (.fieldLink RX1 13 "FormworkYard" "gained" "[I") (by decide +kernel)) rfl dX1_sumGains_17 ?_
        refine lv_iload_n hx hb dX1_sumGains_20 rfl (lv_at hl 0 rfl) ?_
        refine zi_const hx hb dX1_sumGains_21 ?_
        refine zi_add hx hb dX1_sumGains_22 ?_
        refine lv_aload_n hx hb dX1_sumGains_23 rfl (lv_at hl 1 rfl) ?_
        refine zget (C := RX1) (T := TX1) (N := 9) hx hb hts hinX1 hown hE hw 0 yE_0 rfl 1 (by decide) (hts (.fieldLink RX1 13 "FormworkYard" "gained" "[I") (by decide +kernel)) rfl dX1_sumGains_24 ?_
        refine lv_iload_n hx hb dX1_sumGains_27 rfl (lv_at hl 0 rfl) ?_
        refine ziald hx hb hE hw 2 yE_2 i rfl (by omega) (by omega) dX1_sumGains_28 ?_
        refine zi_top (fun v_28 hv_28 => ?_)
        have hgb := gs_b ht i
        refine zi_const hx hb dX1_sumGains_29 ?_
        refine lv_aload_n hx hb dX1_sumGains_30 rfl (lv_at hl 1 rfl) ?_
        refine zget (C := RX1) (T := TX1) (N := 9) hx hb hts hinX1 hown hE hw 0 yE_0 rfl 0 (by decide) (hts (.fieldLink RX1 9 "FormworkYard" "temperatures" "[I") (by decide +kernel)) rfl dX1_sumGains_31 ?_
        refine lv_iload_n hx hb dX1_sumGains_34 rfl (lv_at hl 0 rfl) ?_
        refine ziald hx hb hE hw 1 yE_1 i rfl (by omega) (by omega) dX1_sumGains_35 ?_
        refine zi_top (fun v_35 hv_35 => ?_)
        have hT := ht i (by omega)
        rw [hr9 0 (by decide)] at hv_35
        refine zi_bipush hx hb dX1_sumGains_36 (by decide) ?_
        refine zi_add hx hb dX1_sumGains_38 ?_
        refine va_mmax hx hb (hml.trans hl.1.symm) hown (hts (.methodLink RX1 144 Lib.Math.max.name) (by decide +kernel)) (hts (.static Lib.Math.max.name) (by decide +kernel)) (hts (.initialized "java/lang/Math") (by decide +kernel)) (hts (.code Lib.Math.max.name Lib.Math.max.code 2 (some .int)) (by decide +kernel)) (Nat.le_of_ble_eq_true rfl) (Nat.le_of_ble_eq_true rfl) (Nat.le_of_ble_eq_true rfl) (Nat.le_of_ble_eq_true rfl) dX1_sumGains_39 ?_
        rw [iI_max (a := 0) (b := v_35 + 10) (by first | decide | (constructor <;> omega)) (by first | decide | (constructor <;> omega))]
        refine zi_top (fun x_39 hx_39 => ?_)
        have hgn : x_39 = gn (ya 0 i) := by rw [hx_39, hv_35]; unfold gn; split <;> omega
        refine zi_add hx hb dX1_sumGains_42 ?_
        refine ziast hx hb hE hS hw 2 yE_2 (i + 1) (by omega) (by omega) (by omega) dX1_sumGains_43 (fun H locs hw hS => ?_)
        have hw := hw.cong (yU_a 1 (by decide) ((i + 1)) (v_28 + x_39) rfl)
        obtain ⟨ya_2, hya_2⟩ : ∃ z : Nat → Nat → Int, z = va_up yb 1 (va_up (yb 1) ((i + 1)) (v_28 + x_39)) := ⟨_, rfl⟩
        rw [← hya_2] at hw
        refine zi_iinc (lv' := [(1, .int (iI ((i : Int) + 1))), (0, .ref (ad 0))]) hx hb dX1_sumGains_44 hl (k := 0) rfl (by decide) rfl (fun ls hl => ?_)
        refine lv_goto (tgt := 9) hx hb dX1_sumGains_47 (by decide) ?_
        have hY := rU_s (k := 1) (p := i + 1) rU_r hya_2
        exact ih (i + 1) ya_2 _ _ _ (by omega) (by omega) (fun r hr => (rU_row hY.1 hr).trans (hr9 r hr)) (fun j hj => by by_cases hji : j = i + 1; (subst hji; rw [hY.2, hv_28, hgs i (by omega)]; show _ = gs (ya 0) i + _; rw [if_pos (by omega), hgn]); rw [hY.1 1 j (Or.inr hji)]; exact hgs j (by omega)) hw hS (lv_sub hl [0, 1] rfl)
  exact loop_9 1001 0 ya_1 _ _ _ (by omega) (by omega) (fun r hr => rU_row (rU_s (k := 1) (p := 0) rU_r hya_1).1 hr) (fun j hj => by rw [show j = 0 by omega, (rU_s (k := 1) (p := 0) rU_r hya_1).2]; rfl) hw hS (lv_sub hl [0, 1] rfl)

set_option maxHeartbeats 4000000 in
set_option maxRecDepth 100000 in
theorem c_X1_needIn (l : Launch) (D : va_G) (cy : Nat → ClassId) (A : Nat → Prop) (ad : Nat → Nat) (ya : Nat → Nat → Int) (yi : Nat → Int) (pr : Nat → Option PS) (H0 : Heap) (h : Int) (hw : zW D A ad (yE cy ad ya yi pr) H0) (h1 : zr h) (ha : pA pr) : Met l yX1_needIn wsX1_needIn ({ frames := 1, cells := 0, slots := 0, locals := 21 }) (zPc D cy A [.ref (ad 0), .int (iI (h))] H0) (zQi (fun z H1 => H1 = H0 ∧ z = nY pr h 10) A) 0 0 A := by
  refine Met.ofW (cc := cX1_needIn) (maxL := 7) (ret := (some .int)) (by decide) rfl ?_
  intro pg en s mt args below meth c s₁ B hml hv
  obtain ⟨rfl, hH, hE⟩ := hv
  subst hH
  have hx := B.exec
  have hb := B.bytes
  have hr := B.returns
  have hts := atoms_spec (ws := wsX1_needIn) B.pre
  have hown : s.vm.findClass RX1 = some mt.cls := findClass_of_methodNamed B.named
  have hlocks := B.notSynchronized
  have hinX0 : ∀ w ∈ u_ws RX0 TX0 13, w ∈ wsX1_needIn := by decide +kernel
  have hinX1 : ∀ w ∈ u_ws RX1 TX1 9, w ∈ wsX1_needIn := by decide +kernel
  have hS : va_S A s.heap s.heap [] := va_S.rf
  have hl := lv_entry ([.ref (ad 0), .int (iI (h))]) (n := 7) (Nat.le_of_ble_eq_true rfl)
  rw [lg_entry_eq]
  generalize (lg_sl ([.ref (ad 0), .int (iI (h))]) ++ List.replicate (7 - (lg_sl ([.ref (ad 0), .int (iI (h))])).length) Slot.unset).toArray = ls at hl ⊢
  have hl : lv_has ls 7 [(0, .ref (ad 0)), (1, .int (iI (h)))] := hl
  refine zi_const hx hb dX1_needIn_0 ?_
  refine lv_istore_n (lv' := [(2, .int (iI (0))), (0, .ref (ad 0)), (1, .int (iI (h)))]) hx hb dX1_needIn_1 rfl hl (by decide) rfl (fun ls hl => ?_)
  refine lv_aload_n hx hb dX1_needIn_2 rfl (lv_at hl 1 rfl) ?_
  refine zget (C := RX1) (T := TX1) (N := 9) hx hb hts hinX1 hown hE hw 0 yE_0 rfl 4 (by decide) (hts (.fieldLink RX1 24 "FormworkYard" "pourList" "[LFormworkYard$Pour;") (by decide +kernel)) rfl dX1_needIn_3 ?_
  refine lv_astore_n (lv' := [(3, .ref (ad 5)), (2, .int (iI (0))), (0, .ref (ad 0)), (1, .int (iI (h)))]) hx hb dX1_needIn_6 rfl hl (by decide) rfl (fun ls hl => ?_)
  refine lv_aload_n hx hb dX1_needIn_7 rfl (lv_at hl 0 rfl) ?_
  refine zalen hx hb hE hw 5 2 yE_5 rfl (z := 10) rfl dX1_needIn_8 ?_
  refine lv_istore (lv' := [(4, .int (iI (10))), (3, .ref (ad 5)), (2, .int (iI (0))), (0, .ref (ad 0)), (1, .int (iI (h)))]) hx hb dX1_needIn_9 hl (by decide) rfl (fun ls hl => ?_)
  refine zi_const hx hb dX1_needIn_11 ?_
  refine lv_istore (lv' := [(5, .int (iI (0))), (4, .int (iI (10))), (3, .ref (ad 5)), (2, .int (iI (0))), (0, .ref (ad 0)), (1, .int (iI (h)))]) hx hb dX1_needIn_12 hl (by decide) rfl (fun ls hl => ?_)
  have loop_14 : ∀ (n : Nat) (i : Nat) (w : Int) (locs : List Loc) (ls : Array Slot), 10 - i < n → (i ≤ 10) → (w = nY pr h i) → va_S A s.heap s.heap locs → lv_has ls 7 [(5, .int (iI ((i : Int)))), (4, .int (iI (10))), (3, .ref (ad 5)), (2, .int (iI (w))), (0, .ref (ad 0)), (1, .int (iI (h)))] → W pg l en (headSpec wsX1_needIn ({ frames := 1, cells := 0, slots := 0, locals := 21 })).room s mt ([.ref (ad 0), .int (iI (h))] : List Value).toArray below meth c s.heap locs 0 0 (MQ below (zQi (fun z H1 => H1 = s.heap ∧ z = nY pr h 10) A) ([.ref (ad 0), .int (iI (h))] : List Value).toArray s 0 0 A) (F0 mt 14 ls []) := by
    intro n
    induction n with
    | zero =>
      intro i w locs ls hm hi hk
      exfalso; omega
    | succ n ih =>
      intro i w locs ls hm hi hk hS hl
      have hnb := nY_b (h := h) ha (n := i) (by omega)
      refine lv_iload hx hb dX1_needIn_14 (lv_at hl 0 rfl) ?_
      refine lv_iload hx hb dX1_needIn_16 (lv_at hl 1 rfl) ?_
      refine zc_ge (tgt := 55) hx hb dX1_needIn_18 (by decide) (by first | decide | (constructor <;> omega)) (by first | decide | (constructor <;> omega)) (fun c_18 => ?_) (fun c_18 => ?_)
      · refine lv_iload_n hx hb dX1_needIn_55 rfl (lv_at hl 3 rfl) ?_
        refine ziret hx hb hr hlocks hS (Nat.le_of_ble_eq_true rfl) (Nat.le_of_ble_eq_true rfl) (by first | decide | (constructor <;> omega)) ?_ dX1_needIn_56
        exact ⟨rfl, by rw [hk, show i = 10 by omega]⟩
      · refine lv_aload_n hx hb dX1_needIn_21 rfl (lv_at hl 2 rfl) ?_
        refine lv_iload hx hb dX1_needIn_22 (lv_at hl 0 rfl) ?_
        refine zaald hx hb hE hw 5 yE_5 i rfl (by omega) (by omega) dX1_needIn_24 ?_
        rcases hp_24 : pr i with _ | p_24
        · rw [yR_0 hp_24]
          refine lv_astoreN (lv' := [(6, .null), (5, .int (iI ((i : Int)))), (4, .int (iI (10))), (3, .ref (ad 5)), (2, .int (iI (w))), (0, .ref (ad 0)), (1, .int (iI (h)))]) hx hb dX1_needIn_25 hl (by decide) rfl (fun ls hl => ?_)
          refine lv_aloadN hx hb dX1_needIn_27 (lv_at hl 0 rfl) ?_
          refine lv_ifnullN (tgt := 49) hx hb dX1_needIn_29 (by decide) ?_
          refine zi_iinc (lv' := [(5, .int (iI ((i : Int) + 1))), (6, .null), (4, .int (iI (10))), (3, .ref (ad 5)), (2, .int (iI (w))), (0, .ref (ad 0)), (1, .int (iI (h)))]) hx hb dX1_needIn_49 hl (k := 1) rfl (by decide) rfl (fun ls hl => ?_)
          refine lv_goto (tgt := 14) hx hb dX1_needIn_52 (by decide) ?_
          exact ih (i + 1) w _ _ (by omega) (by omega) (by rw [nY_n hp_24]; omega) hS (lv_sub hl [0, 2, 3, 4, 5, 6] rfl)
        · rw [yR_1 hp_24]
          obtain ⟨⟨q1, q2, q3, q4, q5, q6⟩, q7, q8⟩ := ha i p_24 (by omega) hp_24
          refine lv_astore (lv' := [(6, .ref (ad (10 + 3 * i))), (5, .int (iI ((i : Int)))), (4, .int (iI (10))), (3, .ref (ad 5)), (2, .int (iI (w))), (0, .ref (ad 0)), (1, .int (iI (h)))]) hx hb dX1_needIn_25 hl (by decide) rfl (fun ls hl => ?_)
          refine lv_aload hx hb dX1_needIn_27 (lv_at hl 0 rfl) ?_
          refine lv_ifnull hx hb dX1_needIn_29 ?_
          refine lv_aload hx hb dX1_needIn_32 (lv_at hl 0 rfl) ?_
          refine lv_iload_n hx hb dX1_needIn_34 rfl (lv_at hl 6 rfl) ?_
          refine zcalli (va_runVN (As := [.int (iI (h))]) (rest := []) ⟨hx, hb, hml, hown, hts⟩ (c_X0_isBusy l D cy A ad ya yi pr _ i p_24 (h) hw (by omega) hp_24 (by first | decide | (constructor <;> omega)) (by first | decide | (constructor <;> omega)) (by first | decide | (constructor <;> omega))) ⟨va_cnB 1 hts gX1_needIn_X0_isBusy_n184 rfl rfl rfl (hE.2.1 (.methodLinkNest RX1 184 yX0_isBusy RX1) (by decide +kernel)) (hts (.initialized RX0) (by decide +kernel)) (by decide +kernel) ⟨(Nat.le_of_ble_eq_true rfl), (Nat.le_of_ble_eq_true rfl)⟩, hts (.instanceMethod yX0_isBusy) (by decide +kernel), hts (.selects RX0 yX0_isBusy yX0_isBusy) (by decide +kernel)⟩ (zPV hE hS hw (ci := 0) (k0 := 10 + 3 * i) rfl (yE_p (by omega) hp_24)) rfl rfl hl.1 rfl (lv_room (Nat.le_of_ble_eq_true rfl)) dX1_needIn_35 ⟨(Nat.le_of_ble_eq_true rfl), (Nat.le_of_ble_eq_true rfl)⟩) hS (fun z_35 H1 locs hz_35 hq hz1 hk1 hS => ?_)
          obtain ⟨hqe, hv_35⟩ := hq
          replace hqe := hqe.symm
          subst hqe
          refine zf_eq (tgt := 49) hx hb dX1_needIn_38 (by decide) (by first | decide | (constructor <;> omega)) (fun c_38 => ?_) (fun c_38 => ?_)
          · refine zi_iinc (lv' := [(5, .int (iI ((i : Int) + 1))), (6, .ref (ad (10 + 3 * i))), (4, .int (iI (10))), (3, .ref (ad 5)), (2, .int (iI (w))), (0, .ref (ad 0)), (1, .int (iI (h)))]) hx hb dX1_needIn_49 hl (k := 1) rfl (by decide) rfl (fun ls hl => ?_)
            refine lv_goto (tgt := 14) hx hb dX1_needIn_52 (by decide) ?_
            exact ih (i + 1) w _ _ (by omega) (by omega) (by rw [nY_s hp_24, if_neg (by omega)]; omega) hS (lv_sub hl [0, 2, 3, 4, 5, 6] rfl)
          · refine lv_iload_n hx hb dX1_needIn_41 rfl (lv_at hl 4 rfl) ?_
            refine lv_aload hx hb dX1_needIn_42 (lv_at hl 0 rfl) ?_
            refine zgetN (own := RX1) (C := RX0) (T := TX0) (N := 13) (index := 107) (host := RX1) hx hb hts hinX0 hown hE hw (10 + 3 * i) (yE_p (by omega) hp_24) rfl 1 (by decide) (by decide +kernel) rfl dX1_needIn_44 ?_
            refine zi_add hx hb dX1_needIn_47 ?_
            refine zi_top (fun x_48 hx_48 => ?_)
            refine lv_istore_n (lv' := [(2, .int (iI (x_48))), (6, .ref (ad (10 + 3 * i))), (5, .int (iI ((i : Int)))), (4, .int (iI (10))), (3, .ref (ad 5)), (0, .ref (ad 0)), (1, .int (iI (h)))]) hx hb dX1_needIn_48 rfl hl (by decide) rfl (fun ls hl => ?_)
            refine zi_iinc (lv' := [(5, .int (iI ((i : Int) + 1))), (2, .int (iI (x_48))), (6, .ref (ad (10 + 3 * i))), (4, .int (iI (10))), (3, .ref (ad 5)), (0, .ref (ad 0)), (1, .int (iI (h)))]) hx hb dX1_needIn_49 hl (k := 2) rfl (by decide) rfl (fun ls hl => ?_)
            refine lv_goto (tgt := 14) hx hb dX1_needIn_52 (by decide) ?_
            exact ih (i + 1) x_48 _ _ (by omega) (by omega) (by rw [nY_s hp_24, if_pos (by omega)]; omega) hS (lv_sub hl [0, 3, 4, 1, 5, 6] rfl)
  exact loop_14 11 0 0 _ _ (by omega) (by omega) rfl hS (lv_sub hl [0, 1, 2, 3, 4, 5] rfl)

set_option maxHeartbeats 4000000 in
set_option maxRecDepth 100000 in
theorem c_X1_sumNeeds (l : Launch) (D : va_G) (cy : Nat → ClassId) (A : Nat → Prop) (ad : Nat → Nat) (ya : Nat → Nat → Int) (yi : Nat → Int) (pr : Nat → Option PS) (H0 : Heap) (hw : zW D A ad (yE cy ad ya yi pr) H0) (ha : pA pr) : Met l yX1_sumNeeds wsX1_sumNeeds ({ frames := 2, cells := 0, slots := 0, locals := 47 }) (zPc D cy A [.ref (ad 0)] H0) (zQv (fun H1 => ∃ yb, zW D A ad (yE cy ad yb yi pr) H1 ∧ (∀ r, r ≠ 2 → yb r = ya r) ∧ ∀ j : Nat, j < 1000 → yb 2 j = nY pr j 10) A) 0 0 A := by
  refine Met.ofW (cc := cX1_sumNeeds) (maxL := 2) (ret := none) (by decide) rfl ?_
  intro pg en s mt args below meth c s₁ B hml hv
  obtain ⟨rfl, hH, hE⟩ := hv
  subst hH
  have hx := B.exec
  have hb := B.bytes
  have hr := B.returns
  have hts := atoms_spec (ws := wsX1_sumNeeds) B.pre
  have hown : s.vm.findClass RX1 = some mt.cls := findClass_of_methodNamed B.named
  have hlocks := B.notSynchronized
  have hinX1 : ∀ w ∈ u_ws RX1 TX1 9, w ∈ wsX1_sumNeeds := by decide +kernel
  have hS : va_S A s.heap s.heap [] := va_S.rf
  have hl := lv_entry ([.ref (ad 0)]) (n := 2) (Nat.le_of_ble_eq_true rfl)
  rw [lg_entry_eq]
  generalize (lg_sl ([.ref (ad 0)]) ++ List.replicate (2 - (lg_sl ([.ref (ad 0)])).length) Slot.unset).toArray = ls at hl ⊢
  have hl : lv_has ls 2 [(0, .ref (ad 0))] := hl
  refine zi_const hx hb dX1_sumNeeds_0 ?_
  refine lv_istore_n (lv' := [(1, .int (iI (0))), (0, .ref (ad 0))]) hx hb dX1_sumNeeds_1 rfl hl (by decide) rfl (fun ls hl => ?_)
  have loop_2 : ∀ (n : Nat) (i : Nat) (yb : Nat → Nat → Int) (H : Heap) (locs : List Loc) (ls : Array Slot), 1000 - i < n → (i ≤ 1000) → (∀ r, r ≠ 2 → yb r = ya r) → (∀ j : Nat, j < i → yb 2 j = nY pr j 10) → zW D A ad (yE cy ad yb yi pr) H → va_S A s.heap H locs → lv_has ls 2 [(1, .int (iI ((i : Int)))), (0, .ref (ad 0))] → W pg l en (headSpec wsX1_sumNeeds ({ frames := 2, cells := 0, slots := 0, locals := 47 })).room s mt ([.ref (ad 0)] : List Value).toArray below meth c H locs 0 0 (MQ below (zQv (fun H1 => ∃ yb, zW D A ad (yE cy ad yb yi pr) H1 ∧ (∀ r, r ≠ 2 → yb r = ya r) ∧ ∀ j : Nat, j < 1000 → yb 2 j = nY pr j 10) A) ([.ref (ad 0)] : List Value).toArray s 0 0 A) (F0 mt 2 ls []) := by
    intro n
    induction n with
    | zero =>
      intro i yb H locs ls hm hi hr9 hgs
      exfalso; omega
    | succ n ih =>
      intro i yb H locs ls hm hi hr9 hgs hw hS hl
      refine lv_iload_n hx hb dX1_sumNeeds_2 rfl (lv_at hl 0 rfl) ?_
      refine zi_sipush hx hb dX1_sumNeeds_3 (by decide) ?_
      refine zc_ge (tgt := 26) hx hb dX1_sumNeeds_6 (by decide) (by first | decide | (constructor <;> omega)) (by first | decide | (constructor <;> omega)) (fun c_6 => ?_) (fun c_6 => ?_)
      · refine zvret hx hb hr hlocks hS (Nat.le_of_ble_eq_true rfl) (Nat.le_of_ble_eq_true rfl) ?_ dX1_sumNeeds_26
        exact ⟨_, hw, hr9, fun n hn => hgs n (by omega)⟩
      · refine lv_aload_n hx hb dX1_sumNeeds_9 rfl (lv_at hl 1 rfl) ?_
        refine zget (C := RX1) (T := TX1) (N := 9) hx hb hts hinX1 hown hE hw 0 yE_0 rfl 2 (by decide) (hts (.fieldLink RX1 16 "FormworkYard" "needs" "[I") (by decide +kernel)) rfl dX1_sumNeeds_10 ?_
        refine lv_iload_n hx hb dX1_sumNeeds_13 rfl (lv_at hl 0 rfl) ?_
        refine lv_aload_n hx hb dX1_sumNeeds_14 rfl (lv_at hl 1 rfl) ?_
        refine lv_iload_n hx hb dX1_sumNeeds_15 rfl (lv_at hl 0 rfl) ?_
        refine zcalli (va_runV (As := [.int (iI ((i : Int)))]) (rest := [.int (iI ((i : Int))), .ref (ad 3)]) ⟨hx, hb, hml, hown, hts⟩ (c_X1_needIn l D cy A ad yb yi pr _ ((i : Int)) hw (by first | decide | (constructor <;> omega)) ha) (cwV 1 hts gX1_sumNeeds_X1_needIn rfl rfl rfl (by decide +kernel) ⟨(Nat.le_of_ble_eq_true rfl), (Nat.le_of_ble_eq_true rfl)⟩) (zPV hE hS hw (ci := 1) (k0 := 0) rfl yE_0) rfl rfl hl.1 rfl (lv_room (Nat.le_of_ble_eq_true rfl)) dX1_sumNeeds_16 ⟨(Nat.le_of_ble_eq_true rfl), (Nat.le_of_ble_eq_true rfl)⟩) hS (fun z_16 H1 locs hz_16 hq hz1 hk1 hS => ?_)
        obtain ⟨hqe, hv_16⟩ := hq
        replace hqe := hqe.symm
        subst hqe
        refine ziast hx hb hE hS hw 3 yE_3 i rfl (by omega) (by omega) dX1_sumNeeds_19 (fun H locs hw hS => ?_)
        have hw := hw.cong (yU_a 2 (by decide) (i) (z_16) rfl)
        obtain ⟨ya_1, hya_1⟩ : ∃ z : Nat → Nat → Int, z = va_up yb 2 (va_up (yb 2) (i) (z_16)) := ⟨_, rfl⟩
        rw [← hya_1] at hw
        refine zi_iinc (lv' := [(1, .int (iI ((i : Int) + 1))), (0, .ref (ad 0))]) hx hb dX1_sumNeeds_20 hl (k := 0) rfl (by decide) rfl (fun ls hl => ?_)
        refine lv_goto (tgt := 2) hx hb dX1_sumNeeds_23 (by decide) ?_
        have hY := rU_s (k := 2) (p := i) rU_r hya_1
        exact ih (i + 1) ya_1 _ _ _ (by omega) (by omega) (fun r hr => (rU_row hY.1 hr).trans (hr9 r hr)) (fun j hj => by by_cases hji : j = i; (subst hji; rw [hY.2, hv_16]); rw [hY.1 2 j (Or.inr hji)]; exact hgs j (by omega)) hw hS (lv_sub hl [0, 1] rfl)
  exact loop_2 1001 0 ya _ _ _ (by omega) (by omega) (fun _ _ => rfl) (fun j hj => absurd hj (Nat.not_lt_zero j)) hw hS (lv_sub hl [0, 1] rfl)

set_option maxHeartbeats 4000000 in
set_option maxRecDepth 100000 in
theorem c_X1_freeNumber (l : Launch) (D : va_G) (cy : Nat → ClassId) (A : Nat → Prop) (ad : Nat → Nat) (ya : Nat → Nat → Int) (yi : Nat → Int) (pr : Nat → Option PS) (H0 : Heap) (hw : zW D A ad (yE cy ad ya yi pr) H0) : Met l yX1_freeNumber wsX1_freeNumber ({ frames := 0, cells := 0, slots := 0, locals := 0 }) (zPc D cy A [.ref (ad 0)] H0) (zQi (fun z H1 => H1 = H0 ∧ ∃ n : Nat, z = (if n < 10 then (n : Int) else -1) ∧ n ≤ 10 ∧ (∀ j, j < n → pr j ≠ none) ∧ (n < 10 → pr n = none)) A) 0 0 A := by
  refine Met.ofW (cc := cX1_freeNumber) (maxL := 2) (ret := (some .int)) (by decide) rfl ?_
  intro pg en s mt args below meth c s₁ B hml hv
  obtain ⟨rfl, hH, hE⟩ := hv
  subst hH
  have hx := B.exec
  have hb := B.bytes
  have hr := B.returns
  have hts := atoms_spec (ws := wsX1_freeNumber) B.pre
  have hown : s.vm.findClass RX1 = some mt.cls := findClass_of_methodNamed B.named
  have hlocks := B.notSynchronized
  have hinX1 : ∀ w ∈ u_ws RX1 TX1 9, w ∈ wsX1_freeNumber := by decide +kernel
  have hS : va_S A s.heap s.heap [] := va_S.rf
  have hl := lv_entry ([.ref (ad 0)]) (n := 2) (Nat.le_of_ble_eq_true rfl)
  rw [lg_entry_eq]
  generalize (lg_sl ([.ref (ad 0)]) ++ List.replicate (2 - (lg_sl ([.ref (ad 0)])).length) Slot.unset).toArray = ls at hl ⊢
  have hl : lv_has ls 2 [(0, .ref (ad 0))] := hl
  refine zi_const hx hb dX1_freeNumber_0 ?_
  refine lv_istore_n (lv' := [(1, .int (iI (0))), (0, .ref (ad 0))]) hx hb dX1_freeNumber_1 rfl hl (by decide) rfl (fun ls hl => ?_)
  have loop_2 : ∀ (n : Nat) (i : Nat) (locs : List Loc) (ls : Array Slot), 10 - i < n → (i ≤ 10) → (∀ j, j < i → pr j ≠ none) → va_S A s.heap s.heap locs → lv_has ls 2 [(1, .int (iI ((i : Int)))), (0, .ref (ad 0))] → W pg l en (headSpec wsX1_freeNumber ({ frames := 0, cells := 0, slots := 0, locals := 0 })).room s mt ([.ref (ad 0)] : List Value).toArray below meth c s.heap locs 0 0 (MQ below (zQi (fun z H1 => H1 = s.heap ∧ ∃ n : Nat, z = (if n < 10 then (n : Int) else -1) ∧ n ≤ 10 ∧ (∀ j, j < n → pr j ≠ none) ∧ (n < 10 → pr n = none)) A) ([.ref (ad 0)] : List Value).toArray s 0 0 A) (F0 mt 2 ls []) := by
    intro n
    induction n with
    | zero =>
      intro i locs ls hm hi hk
      exfalso; omega
    | succ n ih =>
      intro i locs ls hm hi hk hS hl
      refine lv_iload_n hx hb dX1_freeNumber_2 rfl (lv_at hl 0 rfl) ?_
      refine zi_bipush hx hb dX1_freeNumber_3 (by decide) ?_
      refine zc_ge (tgt := 25) hx hb dX1_freeNumber_5 (by decide) (by first | decide | (constructor <;> omega)) (by first | decide | (constructor <;> omega)) (fun c_5 => ?_) (fun c_5 => ?_)
      · refine zi_const hx hb dX1_freeNumber_25 ?_
        refine ziret hx hb hr hlocks hS (Nat.le_of_ble_eq_true rfl) (Nat.le_of_ble_eq_true rfl) (by first | decide | (constructor <;> omega)) ?_ dX1_freeNumber_26
        exact ⟨rfl, i, by rw [if_neg (by omega)], by omega, hk, fun h => absurd h (by omega)⟩
      · refine lv_aload_n hx hb dX1_freeNumber_8 rfl (lv_at hl 1 rfl) ?_
        refine zget (C := RX1) (T := TX1) (N := 9) hx hb hts hinX1 hown hE hw 0 yE_0 rfl 4 (by decide) (hts (.fieldLink RX1 24 "FormworkYard" "pourList" "[LFormworkYard$Pour;") (by decide +kernel)) rfl dX1_freeNumber_9 ?_
        refine lv_iload_n hx hb dX1_freeNumber_12 rfl (lv_at hl 0 rfl) ?_
        refine zaald hx hb hE hw 5 yE_5 i rfl (by omega) (by omega) dX1_freeNumber_13 ?_
        rcases hp_13 : pr i with _ | p_13
        · rw [yR_0 hp_13]
          refine lv_ifnonnullN hx hb dX1_freeNumber_14 ?_
          refine lv_iload_n hx hb dX1_freeNumber_17 rfl (lv_at hl 0 rfl) ?_
          refine ziret hx hb hr hlocks hS (Nat.le_of_ble_eq_true rfl) (Nat.le_of_ble_eq_true rfl) (by first | decide | (constructor <;> omega)) ?_ dX1_freeNumber_18
          exact ⟨rfl, i, by rw [if_pos (by omega)], by omega, hk, fun _ => hp_13⟩
        · rw [yR_1 hp_13]
          refine lv_ifnonnull (tgt := 19) hx hb dX1_freeNumber_14 (by decide) ?_
          refine zi_iinc (lv' := [(1, .int (iI ((i : Int) + 1))), (0, .ref (ad 0))]) hx hb dX1_freeNumber_19 hl (k := 0) rfl (by decide) rfl (fun ls hl => ?_)
          refine lv_goto (tgt := 2) hx hb dX1_freeNumber_22 (by decide) ?_
          exact ih (i + 1) _ _ (by omega) (by omega) (fun j hj => by by_cases hji : j = i; (subst hji; rw [hp_13]; exact fun h => nomatch h); exact hk j (by omega)) hS (lv_sub hl [0, 1] rfl)
  exact loop_2 11 0 _ _ (by omega) (by omega) (fun j hj => absurd hj (Nat.not_lt_zero j)) hS (lv_sub hl [0, 1] rfl)
