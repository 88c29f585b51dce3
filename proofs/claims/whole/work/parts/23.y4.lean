theorem pB_ad {p q : PS} {a b : Int} (h : pB p) (h4 : p.1 4 < 4) (h1 : 0 ≤ a ∧ a ≤ 199) (h2 : 1 ≤ b ∧ b ≤ 9) (hr : adR a b p q) : pB q := by
  obtain ⟨q1, q2, q3, q4, q5, q6⟩ := h
  obtain ⟨r1, r2, r3⟩ := hr
  have ef : ∀ j, j ≠ 4 → q.1 j = p.1 j := fun j hj => by rw [r1]; exact up_ne _ _ hj
  have e4 : q.1 4 = p.1 4 + 1 := by rw [r1, up_same]
  unfold pB
  rw [ef 3 (by omega), ef 0 (by omega), ef 1 (by omega), ef 2 (by omega), e4]
  refine ⟨q1, q2, q3, q4, by omega, fun k hk => ?_⟩
  obtain ⟨s1, s2⟩ := r2 k (by omega)
  have hb := ipos_b p.2.1 a (p.1 4).toNat
  rw [s1, s2]
  unfold ins
  rcases Nat.lt_trichotomy k (ipos p.2.1 a (p.1 4).toNat) with c | c | c
  · rw [if_pos c, if_pos c]
    exact q6 k (by omega)
  · rw [if_neg (by omega), if_pos c, if_neg (by omega), if_pos c]
    omega
  · rw [if_neg (by omega), if_neg (by omega), if_neg (by omega), if_neg (by omega)]
    exact q6 (k - 1) (by omega)
set_option maxHeartbeats 4000000 in
set_option maxRecDepth 100000 in
theorem c_X0_addBreak (l : Launch) (D : va_G) (cy : Nat → ClassId) (A : Nat → Prop) (ad : Nat → Nat) (ya : Nat → Nat → Int) (yi : Nat → Int) (pr : Nat → Option PS) (H0 : Heap) (i : Nat) (p0 : PS) (a b : Int) (hw : zW D A ad (yE cy ad ya yi pr) H0) (hi : i < 10) (hp0 : pr i = some p0) (hpb : pB p0) (h4 : p0.1 4 < 4) (h1 : 0 ≤ a ∧ a ≤ 199) (h2 : 1 ≤ b ∧ b ≤ 9) : Met l yX0_addBreak wsX0_addBreak ({ frames := 0, cells := 0, slots := 0, locals := 0 }) (zPc D cy A [.ref (ad (10 + 3 * i)), .int (iI (a)), .int (iI (b))] H0) (zQv (fun H1 => ∃ q, zW D A ad (yE cy ad ya yi (va_up pr i (some q))) H1 ∧ adR a b p0 q) A) 0 0 A := by
  refine Met.ofW (cc := cX0_addBreak) (maxL := 4) (ret := none) (by decide) rfl ?_
  intro pg en s mt args below meth c s₁ B hml hv
  obtain ⟨rfl, hH, hE⟩ := hv
  subst hH
  have hx := B.exec
  have hb := B.bytes
  have hr := B.returns
  have hts := atoms_spec (ws := wsX0_addBreak) B.pre
  have hown : s.vm.findClass RX0 = some mt.cls := findClass_of_methodNamed B.named
  have hlocks := B.notSynchronized
  have hinX0 : ∀ w ∈ u_ws RX0 TX0 13, w ∈ wsX0_addBreak := by decide +kernel
  have hS : va_S A s.heap s.heap [] := va_S.rf
  have hl := lv_entry ([.ref (ad (10 + 3 * i)), .int (iI (a)), .int (iI (b))]) (n := 4) (Nat.le_of_ble_eq_true rfl)
  rw [lg_entry_eq]
  generalize (lg_sl ([.ref (ad (10 + 3 * i)), .int (iI (a)), .int (iI (b))]) ++ List.replicate (4 - (lg_sl ([.ref (ad (10 + 3 * i)), .int (iI (a)), .int (iI (b))])).length) Slot.unset).toArray = ls at hl ⊢
  have hl : lv_has ls 4 [(0, .ref (ad (10 + 3 * i))), (1, .int (iI (a))), (2, .int (iI (b)))] := hl
  obtain ⟨q1, q2, q3, q4, q5, q6⟩ := id hpb
  refine lv_aload_n hx hb dX0_addBreak_0 rfl (lv_at hl 0 rfl) ?_
  refine zget (C := RX0) (T := TX0) (N := 13) hx hb hts hinX0 hown hE hw (10 + 3 * i) (yE_p (by omega) hp0) rfl 4 (by decide) (hts (.fieldLink RX0 31 "FormworkYard$Pour" "breaks" "I") (by decide +kernel)) rfl dX0_addBreak_1 ?_
  refine zf_lt (tgt := 15) hx hb dX0_addBreak_4 (by decide) (by first | decide | (constructor <;> omega)) (fun c_4 => ?_) (fun c_4 => ?_)
  · exfalso; omega
  · refine lv_aload_n hx hb dX0_addBreak_7 rfl (lv_at hl 0 rfl) ?_
    refine zget (C := RX0) (T := TX0) (N := 13) hx hb hts hinX0 hown hE hw (10 + 3 * i) (yE_p (by omega) hp0) rfl 4 (by decide) (hts (.fieldLink RX0 31 "FormworkYard$Pour" "breaks" "I") (by decide +kernel)) rfl dX0_addBreak_8 ?_
    refine zi_const hx hb dX0_addBreak_11 ?_
    refine zc_lt (tgt := 16) hx hb dX0_addBreak_12 (by decide) (by first | decide | (constructor <;> omega)) (by first | decide | (constructor <;> omega)) (fun c_12 => ?_) (fun c_12 => ?_)
    · refine lv_aload_n hx hb dX0_addBreak_16 rfl (lv_at hl 0 rfl) ?_
      refine zget (C := RX0) (T := TX0) (N := 13) hx hb hts hinX0 hown hE hw (10 + 3 * i) (yE_p (by omega) hp0) rfl 4 (by decide) (hts (.fieldLink RX0 31 "FormworkYard$Pour" "breaks" "I") (by decide +kernel)) rfl dX0_addBreak_17 ?_
      obtain ⟨i0, hi0⟩ : ∃ x : Nat, p0.1 4 = x := ⟨(p0.1 4).toNat, by omega⟩
      rw [hi0]
      refine lv_istore_n (lv' := [(3, .int (iI ((i0 : Int)))), (0, .ref (ad (10 + 3 * i))), (1, .int (iI (a))), (2, .int (iI (b)))]) hx hb dX0_addBreak_20 rfl hl (by decide) rfl (fun ls hl => ?_)
      have loop_21 : ∀ (n : Nat) (x : Nat) (q : PS) (H : Heap) (locs : List Loc) (ls : Array Slot), x < n → (x ≤ i0) → (q.1 = p0.1) → (ipos p0.2.1 a x = ipos p0.2.1 a i0) → (dlI p0.2.1 q.2.1 x i0) → (dlI p0.2.2.1 q.2.2.1 x i0) → (q.2.2.2 = p0.2.2.2) → zW D A ad (yE cy ad ya yi (va_up pr i (some q))) H → va_S A s.heap H locs → lv_has ls 4 [(3, .int (iI ((x : Int)))), (0, .ref (ad (10 + 3 * i))), (1, .int (iI (a))), (2, .int (iI (b)))] → W pg l en (headSpec wsX0_addBreak ({ frames := 0, cells := 0, slots := 0, locals := 0 })).room s mt ([.ref (ad (10 + 3 * i)), .int (iI (a)), .int (iI (b))] : List Value).toArray below meth c H locs 0 0 (MQ below (zQv (fun H1 => ∃ q, zW D A ad (yE cy ad ya yi (va_up pr i (some q))) H1 ∧ adR a b p0 q) A) ([.ref (ad (10 + 3 * i)), .int (iI (a)), .int (iI (b))] : List Value).toArray s 0 0 A) (F0 mt 21 ls []) := by
        intro n
        induction n with
        | zero =>
          intro x q H locs ls hm hx9 hqf hip hd13 hd14 hqg
          exfalso; omega
        | succ n ih =>
          intro x q H locs ls hm hx9 hqf hip hd13 hd14 hqg hw hS hl
          refine lv_iload_n hx hb dX0_addBreak_21 rfl (lv_at hl 0 rfl) ?_
          refine zf_le (tgt := 71) hx hb dX0_addBreak_22 (by decide) (by first | decide | (constructor <;> omega)) (fun c_22 => ?_) (fun c_22 => ?_)
          · have hpos : ipos p0.2.1 a i0 = x := by rw [← hip]; rw [show x = 0 by omega]; rfl
            refine lv_aload_n hx hb dX0_addBreak_71 rfl (lv_at hl 1 rfl) ?_
            refine zget (C := RX0) (T := TX0) (N := 13) hx hb hts hinX0 hown hE hw (10 + 3 * i) (yE_p (by omega) (up_same _ _ _)) rfl 5 (by decide) (hts (.fieldLink RX0 9 "FormworkYard$Pour" "parts" "[I") (by decide +kernel)) rfl dX0_addBreak_72 ?_
            refine lv_iload_n hx hb dX0_addBreak_75 rfl (lv_at hl 0 rfl) ?_
            refine lv_iload_n hx hb dX0_addBreak_76 rfl (lv_at hl 2 rfl) ?_
            refine ziast hx hb hE hS hw (11 + 3 * i) (yE_q (by omega) (up_same _ _ _)) x rfl (by omega) (by omega) dX0_addBreak_77 (fun H locs hw hS => ?_)
            have hw := hw.cong (yU_q (by omega) (up_same _ _ _) (x) (a))
            obtain ⟨pr_1, hpr_1⟩ : ∃ z, z = va_up (va_up pr i (some q)) i (some (q.1, va_up q.2.1 (x) (a), q.2.2)) := ⟨_, rfl⟩
            obtain ⟨q_1, hq_1⟩ : ∃ z : PS, z = (q.1, va_up q.2.1 (x) (a), q.2.2) := ⟨_, rfl⟩
            have hp_n1 : pr_1 i = some q_1 := by rw [hpr_1, hq_1, up_same]
            rw [← hpr_1] at hw
            refine lv_aload_n hx hb dX0_addBreak_78 rfl (lv_at hl 1 rfl) ?_
            refine zget (C := RX0) (T := TX0) (N := 13) hx hb hts hinX0 hown hE hw (10 + 3 * i) (yE_p (by omega) hp_n1) rfl 6 (by decide) (hts (.fieldLink RX0 15 "FormworkYard$Pour" "lengths" "[I") (by decide +kernel)) rfl dX0_addBreak_79 ?_
            refine lv_iload_n hx hb dX0_addBreak_82 rfl (lv_at hl 0 rfl) ?_
            refine lv_iload_n hx hb dX0_addBreak_83 rfl (lv_at hl 3 rfl) ?_
            refine ziast hx hb hE hS hw (12 + 3 * i) (yE_r (by omega) hp_n1) x rfl (by omega) (by omega) dX0_addBreak_84 (fun H locs hw hS => ?_)
            have hw := hw.cong (yU_r (by omega) hp_n1 (x) (b))
            obtain ⟨pr_2, hpr_2⟩ : ∃ z, z = va_up pr_1 i (some (q_1.1, q_1.2.1, va_up q_1.2.2.1 (x) (b), q_1.2.2.2)) := ⟨_, rfl⟩
            obtain ⟨q_2, hq_2⟩ : ∃ z : PS, z = (q_1.1, q_1.2.1, va_up q_1.2.2.1 (x) (b), q_1.2.2.2) := ⟨_, rfl⟩
            have hp_n2 : pr_2 i = some q_2 := by rw [hpr_2, hq_2, up_same]
            rw [← hpr_2] at hw
            refine lv_aload_n hx hb dX0_addBreak_85 rfl (lv_at hl 1 rfl) ?_
            refine lv_dup hx hb dX0_addBreak_86 rfl ?_
            refine zget (C := RX0) (T := TX0) (N := 13) hx hb hts hinX0 hown hE hw (10 + 3 * i) (yE_p (by omega) hp_n2) rfl 4 (by decide) (hts (.fieldLink RX0 31 "FormworkYard$Pour" "breaks" "I") (by decide +kernel)) rfl dX0_addBreak_87 ?_
            refine zi_const hx hb dX0_addBreak_90 ?_
            refine zi_add hx hb dX0_addBreak_91 ?_
            refine zput (C := RX0) (T := TX0) (N := 13) hx hb hts hinX0 tyX0 tyX0_ok nmX0 hown hE hS hw (10 + 3 * i) (yE_p (by omega) hp_n2) rfl 4 (by decide) (hts (.fieldLink RX0 31 "FormworkYard$Pour" "breaks" "I") (by decide +kernel)) rfl (ty := .int) (by decide +kernel) rfl rfl (Nat.le_of_ble_eq_true rfl) dX0_addBreak_92 (fun H locs hw hS => ?_)
            have hw := hw.cong (yU_f (by omega) hp_n2 4 (by decide) (by decide) ((q_2.1 4) + 1))
            obtain ⟨pr_3, hpr_3⟩ : ∃ z, z = va_up pr_2 i (some (va_up q_2.1 4 ((q_2.1 4) + 1), q_2.2)) := ⟨_, rfl⟩
            obtain ⟨q_3, hq_3⟩ : ∃ z : PS, z = (va_up q_2.1 4 ((q_2.1 4) + 1), q_2.2) := ⟨_, rfl⟩
            have hp_n3 : pr_3 i = some q_3 := by rw [hpr_3, hq_3, up_same]
            rw [← hpr_3] at hw
            refine zvret hx hb hr hlocks hS (Nat.le_of_ble_eq_true rfl) (Nat.le_of_ble_eq_true rfl) ?_ dX0_addBreak_95
            have hpr : pr_3 = va_up pr i (some q_3) := by rw [hq_3, hpr_3, hpr_2, hpr_1, up_up, up_up, up_up]
            rw [hpr] at hw
            have e13 := dlI_e hd13 a hx9
            have e14 := dlI_e hd14 b hx9
            have hn0 : (p0.1 4).toNat = i0 := by omega
            refine ⟨_, hw, ?_, fun j hj => ⟨?_, ?_⟩, ?_⟩
            · rw [hq_3, hq_2, hq_1]; simp only [hqf]
            · rw [hq_3, hq_2, hq_1, hn0, hpos]; exact e13.1 j (by omega)
            · rw [hq_3, hq_2, hq_1, hn0, hpos]; exact e14.1 j (by omega)
            · rw [hq_3, hq_2, hq_1]; exact hqg
          · obtain ⟨u, hu⟩ : ∃ u, x = u + 1 := ⟨x - 1, by omega⟩
            refine lv_aload_n hx hb dX0_addBreak_25 rfl (lv_at hl 1 rfl) ?_
            refine zget (C := RX0) (T := TX0) (N := 13) hx hb hts hinX0 hown hE hw (10 + 3 * i) (yE_p (by omega) (up_same _ _ _)) rfl 5 (by decide) (hts (.fieldLink RX0 9 "FormworkYard$Pour" "parts" "[I") (by decide +kernel)) rfl dX0_addBreak_26 ?_
            refine lv_iload_n hx hb dX0_addBreak_29 rfl (lv_at hl 0 rfl) ?_
            refine zi_const hx hb dX0_addBreak_30 ?_
            refine zi_sub hx hb dX0_addBreak_31 ?_
            refine ziald hx hb hE hw (11 + 3 * i) (yE_q (by omega) (up_same _ _ _)) u (by omega) (by omega) (by omega) dX0_addBreak_32 ?_
            refine zi_top (fun v_32 hv_32 => ?_)
            have hfu0 : q.2.1 u = p0.2.1 u := hd13.1 u (by omega)
            have hq6u := q6 u (by omega)
            refine lv_iload_n hx hb dX0_addBreak_33 rfl (lv_at hl 2 rfl) ?_
            refine zc_le (tgt := 71) hx hb dX0_addBreak_34 (by decide) (by first | decide | (constructor <;> omega)) (by first | decide | (constructor <;> omega)) (fun c_34 => ?_) (fun c_34 => ?_)
            · have hpos : ipos p0.2.1 a i0 = x := by rw [← hip]; rw [hu]; simp only [ipos]; rw [if_neg (by omega)]
              refine lv_aload_n hx hb dX0_addBreak_71 rfl (lv_at hl 1 rfl) ?_
              refine zget (C := RX0) (T := TX0) (N := 13) hx hb hts hinX0 hown hE hw (10 + 3 * i) (yE_p (by omega) (up_same _ _ _)) rfl 5 (by decide) (hts (.fieldLink RX0 9 "FormworkYard$Pour" "parts" "[I") (by decide +kernel)) rfl dX0_addBreak_72 ?_
              refine lv_iload_n hx hb dX0_addBreak_75 rfl (lv_at hl 0 rfl) ?_
              refine lv_iload_n hx hb dX0_addBreak_76 rfl (lv_at hl 2 rfl) ?_
              refine ziast hx hb hE hS hw (11 + 3 * i) (yE_q (by omega) (up_same _ _ _)) x rfl (by omega) (by omega) dX0_addBreak_77 (fun H locs hw hS => ?_)
              have hw := hw.cong (yU_q (by omega) (up_same _ _ _) (x) (a))
              obtain ⟨pr_4, hpr_4⟩ : ∃ z, z = va_up (va_up pr i (some q)) i (some (q.1, va_up q.2.1 (x) (a), q.2.2)) := ⟨_, rfl⟩
              obtain ⟨q_4, hq_4⟩ : ∃ z : PS, z = (q.1, va_up q.2.1 (x) (a), q.2.2) := ⟨_, rfl⟩
              have hp_n4 : pr_4 i = some q_4 := by rw [hpr_4, hq_4, up_same]
              rw [← hpr_4] at hw
              refine lv_aload_n hx hb dX0_addBreak_78 rfl (lv_at hl 1 rfl) ?_
              refine zget (C := RX0) (T := TX0) (N := 13) hx hb hts hinX0 hown hE hw (10 + 3 * i) (yE_p (by omega) hp_n4) rfl 6 (by decide) (hts (.fieldLink RX0 15 "FormworkYard$Pour" "lengths" "[I") (by decide +kernel)) rfl dX0_addBreak_79 ?_
              refine lv_iload_n hx hb dX0_addBreak_82 rfl (lv_at hl 0 rfl) ?_
              refine lv_iload_n hx hb dX0_addBreak_83 rfl (lv_at hl 3 rfl) ?_
              refine ziast hx hb hE hS hw (12 + 3 * i) (yE_r (by omega) hp_n4) x rfl (by omega) (by omega) dX0_addBreak_84 (fun H locs hw hS => ?_)
              have hw := hw.cong (yU_r (by omega) hp_n4 (x) (b))
              obtain ⟨pr_5, hpr_5⟩ : ∃ z, z = va_up pr_4 i (some (q_4.1, q_4.2.1, va_up q_4.2.2.1 (x) (b), q_4.2.2.2)) := ⟨_, rfl⟩
              obtain ⟨q_5, hq_5⟩ : ∃ z : PS, z = (q_4.1, q_4.2.1, va_up q_4.2.2.1 (x) (b), q_4.2.2.2) := ⟨_, rfl⟩
              have hp_n5 : pr_5 i = some q_5 := by rw [hpr_5, hq_5, up_same]
              rw [← hpr_5] at hw
              refine lv_aload_n hx hb dX0_addBreak_85 rfl (lv_at hl 1 rfl) ?_
              refine lv_dup hx hb dX0_addBreak_86 rfl ?_
              refine zget (C := RX0) (T := TX0) (N := 13) hx hb hts hinX0 hown hE hw (10 + 3 * i) (yE_p (by omega) hp_n5) rfl 4 (by decide) (hts (.fieldLink RX0 31 "FormworkYard$Pour" "breaks" "I") (by decide +kernel)) rfl dX0_addBreak_87 ?_
              refine zi_const hx hb dX0_addBreak_90 ?_
              refine zi_add hx hb dX0_addBreak_91 ?_
              refine zput (C := RX0) (T := TX0) (N := 13) hx hb hts hinX0 tyX0 tyX0_ok nmX0 hown hE hS hw (10 + 3 * i) (yE_p (by omega) hp_n5) rfl 4 (by decide) (hts (.fieldLink RX0 31 "FormworkYard$Pour" "breaks" "I") (by decide +kernel)) rfl (ty := .int) (by decide +kernel) rfl rfl (Nat.le_of_ble_eq_true rfl) dX0_addBreak_92 (fun H locs hw hS => ?_)
              have hw := hw.cong (yU_f (by omega) hp_n5 4 (by decide) (by decide) ((q_5.1 4) + 1))
              obtain ⟨pr_6, hpr_6⟩ : ∃ z, z = va_up pr_5 i (some (va_up q_5.1 4 ((q_5.1 4) + 1), q_5.2)) := ⟨_, rfl⟩
              obtain ⟨q_6, hq_6⟩ : ∃ z : PS, z = (va_up q_5.1 4 ((q_5.1 4) + 1), q_5.2) := ⟨_, rfl⟩
              have hp_n6 : pr_6 i = some q_6 := by rw [hpr_6, hq_6, up_same]
              rw [← hpr_6] at hw
              refine zvret hx hb hr hlocks hS (Nat.le_of_ble_eq_true rfl) (Nat.le_of_ble_eq_true rfl) ?_ dX0_addBreak_95
              have hpr : pr_6 = va_up pr i (some q_6) := by rw [hq_6, hpr_6, hpr_5, hpr_4, up_up, up_up, up_up]
              rw [hpr] at hw
              have e13 := dlI_e hd13 a hx9
              have e14 := dlI_e hd14 b hx9
              have hn0 : (p0.1 4).toNat = i0 := by omega
              refine ⟨_, hw, ?_, fun j hj => ⟨?_, ?_⟩, ?_⟩
              · rw [hq_6, hq_5, hq_4]; simp only [hqf]
              · rw [hq_6, hq_5, hq_4, hn0, hpos]; exact e13.1 j (by omega)
              · rw [hq_6, hq_5, hq_4, hn0, hpos]; exact e14.1 j (by omega)
              · rw [hq_6, hq_5, hq_4]; exact hqg
            · refine lv_aload_n hx hb dX0_addBreak_37 rfl (lv_at hl 1 rfl) ?_
              refine zget (C := RX0) (T := TX0) (N := 13) hx hb hts hinX0 hown hE hw (10 + 3 * i) (yE_p (by omega) (up_same _ _ _)) rfl 5 (by decide) (hts (.fieldLink RX0 9 "FormworkYard$Pour" "parts" "[I") (by decide +kernel)) rfl dX0_addBreak_38 ?_
              refine lv_iload_n hx hb dX0_addBreak_41 rfl (lv_at hl 0 rfl) ?_
              refine lv_aload_n hx hb dX0_addBreak_42 rfl (lv_at hl 1 rfl) ?_
              refine zget (C := RX0) (T := TX0) (N := 13) hx hb hts hinX0 hown hE hw (10 + 3 * i) (yE_p (by omega) (up_same _ _ _)) rfl 5 (by decide) (hts (.fieldLink RX0 9 "FormworkYard$Pour" "parts" "[I") (by decide +kernel)) rfl dX0_addBreak_43 ?_
              refine lv_iload_n hx hb dX0_addBreak_46 rfl (lv_at hl 0 rfl) ?_
              refine zi_const hx hb dX0_addBreak_47 ?_
              refine zi_sub hx hb dX0_addBreak_48 ?_
              refine ziald hx hb hE hw (11 + 3 * i) (yE_q (by omega) (up_same _ _ _)) u (by omega) (by omega) (by omega) dX0_addBreak_49 ?_
              refine zi_top (fun v_49 hv_49 => ?_)
              refine ziast hx hb hE hS hw (11 + 3 * i) (yE_q (by omega) (up_same _ _ _)) (u + 1) (by omega) (by omega) (by omega) dX0_addBreak_50 (fun H locs hw hS => ?_)
              have hw := hw.cong (yU_q (by omega) (up_same _ _ _) ((u + 1)) (v_49))
              obtain ⟨pr_7, hpr_7⟩ : ∃ z, z = va_up (va_up pr i (some q)) i (some (q.1, va_up q.2.1 ((u + 1)) (v_49), q.2.2)) := ⟨_, rfl⟩
              obtain ⟨q_7, hq_7⟩ : ∃ z : PS, z = (q.1, va_up q.2.1 ((u + 1)) (v_49), q.2.2) := ⟨_, rfl⟩
              have hp_n7 : pr_7 i = some q_7 := by rw [hpr_7, hq_7, up_same]
              rw [← hpr_7] at hw
              refine lv_aload_n hx hb dX0_addBreak_51 rfl (lv_at hl 1 rfl) ?_
              refine zget (C := RX0) (T := TX0) (N := 13) hx hb hts hinX0 hown hE hw (10 + 3 * i) (yE_p (by omega) hp_n7) rfl 6 (by decide) (hts (.fieldLink RX0 15 "FormworkYard$Pour" "lengths" "[I") (by decide +kernel)) rfl dX0_addBreak_52 ?_
              refine lv_iload_n hx hb dX0_addBreak_55 rfl (lv_at hl 0 rfl) ?_
              refine lv_aload_n hx hb dX0_addBreak_56 rfl (lv_at hl 1 rfl) ?_
              refine zget (C := RX0) (T := TX0) (N := 13) hx hb hts hinX0 hown hE hw (10 + 3 * i) (yE_p (by omega) hp_n7) rfl 6 (by decide) (hts (.fieldLink RX0 15 "FormworkYard$Pour" "lengths" "[I") (by decide +kernel)) rfl dX0_addBreak_57 ?_
              refine lv_iload_n hx hb dX0_addBreak_60 rfl (lv_at hl 0 rfl) ?_
              refine zi_const hx hb dX0_addBreak_61 ?_
              refine zi_sub hx hb dX0_addBreak_62 ?_
              refine ziald hx hb hE hw (12 + 3 * i) (yE_r (by omega) hp_n7) u (by omega) (by omega) (by omega) dX0_addBreak_63 ?_
              refine zi_top (fun v_63 hv_63 => ?_)
              refine ziast hx hb hE hS hw (12 + 3 * i) (yE_r (by omega) hp_n7) (u + 1) (by omega) (by omega) (by omega) dX0_addBreak_64 (fun H locs hw hS => ?_)
              have hw := hw.cong (yU_r (by omega) hp_n7 ((u + 1)) (v_63))
              obtain ⟨pr_8, hpr_8⟩ : ∃ z, z = va_up pr_7 i (some (q_7.1, q_7.2.1, va_up q_7.2.2.1 ((u + 1)) (v_63), q_7.2.2.2)) := ⟨_, rfl⟩
              obtain ⟨q_8, hq_8⟩ : ∃ z : PS, z = (q_7.1, q_7.2.1, va_up q_7.2.2.1 ((u + 1)) (v_63), q_7.2.2.2) := ⟨_, rfl⟩
              have hp_n8 : pr_8 i = some q_8 := by rw [hpr_8, hq_8, up_same]
              rw [← hpr_8] at hw
              refine zi_iinc (lv' := [(3, .int (iI ((x : Int) + (-1)))), (0, .ref (ad (10 + 3 * i))), (1, .int (iI (a))), (2, .int (iI (b)))]) hx hb dX0_addBreak_65 hl (k := 0) rfl (by decide) rfl (fun ls hl => ?_)
              refine lv_goto (tgt := 21) hx hb dX0_addBreak_68 (by decide) ?_
              have hpr : pr_8 = va_up pr i (some q_8) := by rw [hq_8, hpr_8, hpr_7, up_up, up_up]
              rw [hpr] at hw
              subst hu
              have e9 : ((u + 1 : Nat) : Int) + (-1) = (u : Int) := by omega
              rw [e9] at hl
              have n13 : q_8.2.1 = va_up q.2.1 (u + 1) (q.2.1 u) := by rw [hq_8, hq_7, hv_49]
              have n14 : q_8.2.2.1 = va_up q.2.2.1 (u + 1) (q.2.2.1 u) := by rw [hq_8, hv_63, hq_7]
              have hfu : q.2.1 u = p0.2.1 u := hd13.1 u (by omega)
              exact ih u q_8 _ _ _ (by omega) (by omega) (by rw [hq_8, hq_7]; exact hqf) (by rw [← hip]; simp only [ipos]; rw [if_pos (by omega)]) (by rw [n13]; exact dlI_s hd13 (by omega)) (by rw [n14]; exact dlI_s hd14 (by omega)) (by rw [hq_8, hq_7]; exact hqg) hw hS (lv_sub hl [0, 1, 2, 3] rfl)
      rw [← up_self hp0] at hw
      exact loop_21 (i0 + 1) i0 p0 _ _ _ (by omega) (by omega) rfl rfl dlI_0 dlI_0 rfl hw hS (lv_sub hl [0, 1, 2, 3] rfl)
    · exfalso; omega

set_option maxHeartbeats 4000000 in
set_option maxRecDepth 100000 in
theorem c_X1_move_ok (l : Launch) (D : va_G) (cy : Nat → ClassId) (A : Nat → Prop) (ad : Nat → Nat) (ya : Nat → Nat → Int) (yi : Nat → Int) (pr : Nat → Option PS) (H0 : Heap) (T : Nat → Int) (i : Nat) (p0 : PS) (a : Int) (hw : zW D A ad (yE cy ad ya yi pr) H0) (hi : i < 10) (hp0 : pr i = some p0) (hpb : pB p0) (h1 : 0 ≤ a ∧ a ≤ 900) (hg : yB yi) (hG : gnd T ya) (ht : tOK T) : Met l yX1_move wsX1_move ({ frames := 4, cells := 0, slots := 0, locals := 90 }) (zPc D cy A [.ref (ad 0), .int (iI ((i : Int))), .int (iI (a))] H0) (zQi (fun z H1 => ∃ q, zW D A ad (yE cy ad ya yi (va_up pr i (some q))) H1 ∧ schR T yi (va_up p0.1 3 a, p0.2) q ∧ z = p0.1 3) A) 0 0 A := by
  refine Met.ofW (cc := cX1_move) (maxL := 5) (ret := (some .int)) (by decide) rfl ?_
  intro pg en s mt args below meth c s₁ B hml hv
  obtain ⟨rfl, hH, hE⟩ := hv
  subst hH
  have hx := B.exec
  have hb := B.bytes
  have hr := B.returns
  have hts := atoms_spec (ws := wsX1_move) B.pre
  have hown : s.vm.findClass RX1 = some mt.cls := findClass_of_methodNamed B.named
  have hlocks := B.notSynchronized
  have hinX0 : ∀ w ∈ u_ws RX0 TX0 13, w ∈ wsX1_move := by decide +kernel
  have hS : va_S A s.heap s.heap [] := va_S.rf
  have hl := lv_entry ([.ref (ad 0), .int (iI ((i : Int))), .int (iI (a))]) (n := 5) (Nat.le_of_ble_eq_true rfl)
  rw [lg_entry_eq]
  generalize (lg_sl ([.ref (ad 0), .int (iI ((i : Int))), .int (iI (a))]) ++ List.replicate (5 - (lg_sl ([.ref (ad 0), .int (iI ((i : Int))), .int (iI (a))])).length) Slot.unset).toArray = ls at hl ⊢
  have hl : lv_has ls 5 [(0, .ref (ad 0)), (1, .int (iI ((i : Int)))), (2, .int (iI (a)))] := hl
  obtain ⟨q1, q2, q3, q4, q5, q6⟩ := id hpb
  refine lv_aload_n hx hb dX1_move_0 rfl (lv_at hl 0 rfl) ?_
  refine lv_iload_n hx hb dX1_move_1 rfl (lv_at hl 1 rfl) ?_
  refine zcallq (va_runV (As := [.int (iI ((i : Int)))]) (rest := []) ⟨hx, hb, hml, hown, hts⟩ (c_X1_existing_ok l D cy A ad ya yi pr _ i p0 hw (by omega) hp0) (cwV 1 hts gX1_move_X1_existing rfl rfl rfl (by decide +kernel) ⟨(Nat.le_of_ble_eq_true rfl), (Nat.le_of_ble_eq_true rfl)⟩) (zPV hE hS hw (ci := 1) (k0 := 0) rfl yE_0) rfl rfl hl.1 rfl (lv_room (Nat.le_of_ble_eq_true rfl)) dX1_move_2 ⟨(Nat.le_of_ble_eq_true rfl), (Nat.le_of_ble_eq_true rfl)⟩) hS (fun z_2 H1 locs hq hz1 hk1 hS => ?_)
  obtain ⟨hqe, hv_2⟩ := hq
  replace hqe := hqe.symm
  subst hqe
  subst hv_2
  rw [zrf]
  refine lv_astore_n (lv' := [(3, .ref (ad (10 + 3 * i))), (0, .ref (ad 0)), (1, .int (iI ((i : Int)))), (2, .int (iI (a)))]) hx hb dX1_move_5 rfl hl (by decide) rfl (fun ls hl => ?_)
  refine lv_iload_n hx hb dX1_move_6 rfl (lv_at hl 3 rfl) ?_
  refine zi_const hx hb dX1_move_7 ?_
  refine zi_sipush hx hb dX1_move_8 (by decide) ?_
  refine zcallv (va_runS (As := [.int (iI (a)), .int (iI (0)), .int (iI (900))]) (rest := []) ⟨hx, hb, hml, hown, hts⟩ (c_X1_requireRange_ok l D cy A ad _ (a) (0) (900) (by omega) (by first | decide | (constructor <;> omega)) (by first | decide | (constructor <;> omega))) (va_cwS 3 hts gX1_move_X1_requireRange rfl rfl rfl (by decide +kernel) ⟨(Nat.le_of_ble_eq_true rfl), (Nat.le_of_ble_eq_true rfl)⟩) (zPS hE hS) rfl rfl hl.1 rfl (lv_room (Nat.le_of_ble_eq_true rfl)) dX1_move_11 ⟨(Nat.le_of_ble_eq_true rfl), (Nat.le_of_ble_eq_true rfl)⟩) hS (fun H1 locs hq hz1 hk1 hS => ?_)
  replace hq := hq.symm
  subst hq
  refine lv_aload_n hx hb dX1_move_14 rfl (lv_at hl 0 rfl) ?_
  refine zgetN (own := RX1) (C := RX0) (T := TX0) (N := 13) (index := 104) (host := RX1) hx hb hts hinX0 hown hE hw (10 + 3 * i) (yE_p (by omega) hp0) rfl 3 (by decide) (by decide +kernel) rfl dX1_move_15 ?_
  refine zi_top (fun x_18 hx_18 => ?_)
  refine lv_istore (lv' := [(4, .int (iI (x_18))), (3, .ref (ad (10 + 3 * i))), (0, .ref (ad 0)), (1, .int (iI ((i : Int)))), (2, .int (iI (a)))]) hx hb dX1_move_18 hl (by decide) rfl (fun ls hl => ?_)
  refine lv_aload_n hx hb dX1_move_20 rfl (lv_at hl 1 rfl) ?_
  refine lv_iload_n hx hb dX1_move_21 rfl (lv_at hl 4 rfl) ?_
  refine zputN (own := RX1) (C := RX0) (T := TX0) (N := 13) (index := 104) (host := RX1) hx hb hts hinX0 tyX0 tyX0_ok nmX0 hown hE hS hw (10 + 3 * i) (yE_p (by omega) hp0) rfl 3 (by decide) (by decide +kernel) rfl (ty := .int) (by decide +kernel) rfl rfl (Nat.le_of_ble_eq_true rfl) dX1_move_22 (fun H locs hw hS => ?_)
  have hw := hw.cong (yU_f (by omega) hp0 3 (by decide) (by decide) (a))
  obtain ⟨pr_1, hpr_1⟩ : ∃ z, z = va_up pr i (some (va_up p0.1 3 (a), p0.2)) := ⟨_, rfl⟩
  obtain ⟨q_1, hq_1⟩ : ∃ z : PS, z = (va_up p0.1 3 (a), p0.2) := ⟨_, rfl⟩
  have hp_n1 : pr_1 i = some q_1 := by rw [hpr_1, hq_1, up_same]
  rw [← hpr_1] at hw
  have hpb1 : pB q_1 := by rw [hq_1]; refine ⟨?_, ?_, ?_, ?_, ?_, ?_⟩ <;> simp only [va_up] <;> first | exact q6 | (simp; omega) | (simpa using q6)
  refine lv_aload_n hx hb dX1_move_25 rfl (lv_at hl 2 rfl) ?_
  refine lv_aload_n hx hb dX1_move_26 rfl (lv_at hl 1 rfl) ?_
  refine zcallv (va_runV (As := [.ref (ad (10 + 3 * i))]) (rest := []) ⟨hx, hb, hml, hown, hts⟩ (c_X1_schedule l D cy A ad ya yi pr_1 _ T i q_1 hw (by omega) hp_n1 hpb1 hg hG ht) (cwV 1 hts gX1_move_X1_schedule rfl rfl rfl (by decide +kernel) ⟨(Nat.le_of_ble_eq_true rfl), (Nat.le_of_ble_eq_true rfl)⟩) (zPV hE hS hw (ci := 1) (k0 := 0) rfl yE_0) rfl rfl hl.1 rfl (lv_room (Nat.le_of_ble_eq_true rfl)) dX1_move_27 ⟨(Nat.le_of_ble_eq_true rfl), (Nat.le_of_ble_eq_true rfl)⟩) hS (fun H1 locs hq hz1 hk1 hS => ?_)
  obtain ⟨q_s27, hw, hsch, hgv⟩ := hq
  refine lv_iload hx hb dX1_move_30 (lv_at hl 0 rfl) ?_
  refine ziret hx hb hr hlocks hS (Nat.le_of_ble_eq_true rfl) (Nat.le_of_ble_eq_true rfl) (by first | decide | (constructor <;> omega)) ?_ dX1_move_32
  rw [hpr_1, up_up] at hw
  rw [hq_1] at hsch
  exact ⟨_, hw, hsch, by omega⟩

set_option maxHeartbeats 4000000 in
set_option maxRecDepth 100000 in
theorem c_X1_cancel_ok (l : Launch) (D : va_G) (cy : Nat → ClassId) (A : Nat → Prop) (ad : Nat → Nat) (ya : Nat → Nat → Int) (yi : Nat → Int) (pr : Nat → Option PS) (H0 : Heap) (i : Nat) (p0 : PS) (hw : zW D A ad (yE cy ad ya yi pr) H0) (hi : i < 10) (hp0 : pr i = some p0) (hpb : pB p0) : Met l yX1_cancel wsX1_cancel ({ frames := 2, cells := 0, slots := 0, locals := 42 }) (zPc D cy A [.ref (ad 0), .int (iI ((i : Int)))] H0) (zQi (fun z H1 => zW D A ad (yE cy ad ya yi (va_up pr i none)) H1 ∧ z = p0.1 1) A) 0 0 A := by
  refine Met.ofW (cc := cX1_cancel) (maxL := 3) (ret := (some .int)) (by decide) rfl ?_
  intro pg en s mt args below meth c s₁ B hml hv
  obtain ⟨rfl, hH, hE⟩ := hv
  subst hH
  have hx := B.exec
  have hb := B.bytes
  have hr := B.returns
  have hts := atoms_spec (ws := wsX1_cancel) B.pre
  have hown : s.vm.findClass RX1 = some mt.cls := findClass_of_methodNamed B.named
  have hlocks := B.notSynchronized
  have hinX0 : ∀ w ∈ u_ws RX0 TX0 13, w ∈ wsX1_cancel := by decide +kernel
  have hinX1 : ∀ w ∈ u_ws RX1 TX1 9, w ∈ wsX1_cancel := by decide +kernel
  have hS : va_S A s.heap s.heap [] := va_S.rf
  have hl := lv_entry ([.ref (ad 0), .int (iI ((i : Int)))]) (n := 3) (Nat.le_of_ble_eq_true rfl)
  rw [lg_entry_eq]
  generalize (lg_sl ([.ref (ad 0), .int (iI ((i : Int)))]) ++ List.replicate (3 - (lg_sl ([.ref (ad 0), .int (iI ((i : Int)))])).length) Slot.unset).toArray = ls at hl ⊢
  have hl : lv_has ls 3 [(0, .ref (ad 0)), (1, .int (iI ((i : Int))))] := hl
  obtain ⟨q1, q2, q3, q4, q5, q6⟩ := id hpb
  refine lv_aload_n hx hb dX1_cancel_0 rfl (lv_at hl 0 rfl) ?_
  refine lv_iload_n hx hb dX1_cancel_1 rfl (lv_at hl 1 rfl) ?_
  refine zcallq (va_runV (As := [.int (iI ((i : Int)))]) (rest := []) ⟨hx, hb, hml, hown, hts⟩ (c_X1_existing_ok l D cy A ad ya yi pr _ i p0 hw (by omega) hp0) (cwV 1 hts gX1_cancel_X1_existing rfl rfl rfl (by decide +kernel) ⟨(Nat.le_of_ble_eq_true rfl), (Nat.le_of_ble_eq_true rfl)⟩) (zPV hE hS hw (ci := 1) (k0 := 0) rfl yE_0) rfl rfl hl.1 rfl (lv_room (Nat.le_of_ble_eq_true rfl)) dX1_cancel_2 ⟨(Nat.le_of_ble_eq_true rfl), (Nat.le_of_ble_eq_true rfl)⟩) hS (fun z_2 H1 locs hq hz1 hk1 hS => ?_)
  obtain ⟨hqe, hv_2⟩ := hq
  replace hqe := hqe.symm
  subst hqe
  subst hv_2
  rw [zrf]
  refine lv_astore_n (lv' := [(2, .ref (ad (10 + 3 * i))), (0, .ref (ad 0)), (1, .int (iI ((i : Int))))]) hx hb dX1_cancel_5 rfl hl (by decide) rfl (fun ls hl => ?_)
  refine lv_aload_n hx hb dX1_cancel_6 rfl (lv_at hl 1 rfl) ?_
  refine zget (C := RX1) (T := TX1) (N := 9) hx hb hts hinX1 hown hE hw 0 yE_0 rfl 4 (by decide) (hts (.fieldLink RX1 24 "FormworkYard" "pourList" "[LFormworkYard$Pour;") (by decide +kernel)) rfl dX1_cancel_7 ?_
  refine lv_iload_n hx hb dX1_cancel_10 rfl (lv_at hl 2 rfl) ?_
  refine lv_null hx hb dX1_cancel_11 ?_
  refine zaastN hx hb hE hS hw 5 yE_5 i rfl (by omega) (by omega) dX1_cancel_12 (fun H locs hwR hS => ?_)
  refine lv_aload_n hx hb dX1_cancel_13 rfl (lv_at hl 0 rfl) ?_
  refine zgetN (own := RX1) (C := RX0) (T := TX0) (N := 13) (index := 107) (host := RX1) hx hb hts hinX0 hown hE hwR (10 + 3 * i) ((up_ne _ _ (by omega)).trans (yE_p (by omega) hp0)) rfl 1 (by decide) (by decide +kernel) rfl dX1_cancel_14 ?_
  have hw := yU_c hwR
  refine ziret hx hb hr hlocks hS (Nat.le_of_ble_eq_true rfl) (Nat.le_of_ble_eq_true rfl) (by first | decide | (constructor <;> omega)) ?_ dX1_cancel_17
  exact ⟨hw, rfl⟩

set_option maxHeartbeats 4000000 in
set_option maxRecDepth 100000 in
theorem c_X1_delay_ok (l : Launch) (D : va_G) (cy : Nat → ClassId) (A : Nat → Prop) (ad : Nat → Nat) (ya : Nat → Nat → Int) (yi : Nat → Int) (pr : Nat → Option PS) (H0 : Heap) (T : Nat → Int) (i : Nat) (p0 : PS) (a b : Int) (hw : zW D A ad (yE cy ad ya yi pr) H0) (hi : i < 10) (hp0 : pr i = some p0) (hpb : pB p0) (h4 : p0.1 4 < 4) (h1 : 0 ≤ a ∧ a ≤ p0.1 0 - 1) (h2 : 1 ≤ b ∧ b ≤ 9) (hg : yB yi) (hG : gnd T ya) (ht : tOK T) : Met l yX1_delay wsX1_delay ({ frames := 4, cells := 0, slots := 0, locals := 90 }) (zPc D cy A [.ref (ad 0), .int (iI ((i : Int))), .int (iI (a)), .int (iI (b))] H0) (zQi (fun z H1 => ∃ qa q, zW D A ad (yE cy ad ya yi (va_up pr i (some q))) H1 ∧ adR a b p0 qa ∧ schR T yi qa q ∧ z = p0.1 4 + 1) A) 0 0 A := by
  refine Met.ofW (cc := cX1_delay) (maxL := 5) (ret := (some .int)) (by decide) rfl ?_
  intro pg en s mt args below meth c s₁ B hml hv
  obtain ⟨rfl, hH, hE⟩ := hv
  subst hH
  have hx := B.exec
  have hb := B.bytes
  have hr := B.returns
  have hts := atoms_spec (ws := wsX1_delay) B.pre
  have hown : s.vm.findClass RX1 = some mt.cls := findClass_of_methodNamed B.named
  have hlocks := B.notSynchronized
  have hinX0 : ∀ w ∈ u_ws RX0 TX0 13, w ∈ wsX1_delay := by decide +kernel
  have hS : va_S A s.heap s.heap [] := va_S.rf
  have hl := lv_entry ([.ref (ad 0), .int (iI ((i : Int))), .int (iI (a)), .int (iI (b))]) (n := 5) (Nat.le_of_ble_eq_true rfl)
  rw [lg_entry_eq]
  generalize (lg_sl ([.ref (ad 0), .int (iI ((i : Int))), .int (iI (a)), .int (iI (b))]) ++ List.replicate (5 - (lg_sl ([.ref (ad 0), .int (iI ((i : Int))), .int (iI (a)), .int (iI (b))])).length) Slot.unset).toArray = ls at hl ⊢
  have hl : lv_has ls 5 [(0, .ref (ad 0)), (1, .int (iI ((i : Int)))), (2, .int (iI (a))), (3, .int (iI (b)))] := hl
  obtain ⟨q1, q2, q3, q4, q5, q6⟩ := id hpb
  refine lv_aload_n hx hb dX1_delay_0 rfl (lv_at hl 0 rfl) ?_
  refine lv_iload_n hx hb dX1_delay_1 rfl (lv_at hl 1 rfl) ?_
  refine zcallq (va_runV (As := [.int (iI ((i : Int)))]) (rest := []) ⟨hx, hb, hml, hown, hts⟩ (c_X1_existing_ok l D cy A ad ya yi pr _ i p0 hw (by omega) hp0) (cwV 1 hts gX1_delay_X1_existing rfl rfl rfl (by decide +kernel) ⟨(Nat.le_of_ble_eq_true rfl), (Nat.le_of_ble_eq_true rfl)⟩) (zPV hE hS hw (ci := 1) (k0 := 0) rfl yE_0) rfl rfl hl.1 rfl (lv_room (Nat.le_of_ble_eq_true rfl)) dX1_delay_2 ⟨(Nat.le_of_ble_eq_true rfl), (Nat.le_of_ble_eq_true rfl)⟩) hS (fun z_2 H1 locs hq hz1 hk1 hS => ?_)
  obtain ⟨hqe, hv_2⟩ := hq
  replace hqe := hqe.symm
  subst hqe
  subst hv_2
  rw [zrf]
  refine lv_astore (lv' := [(4, .ref (ad (10 + 3 * i))), (0, .ref (ad 0)), (1, .int (iI ((i : Int)))), (2, .int (iI (a))), (3, .int (iI (b)))]) hx hb dX1_delay_5 hl (by decide) rfl (fun ls hl => ?_)
  refine lv_iload_n hx hb dX1_delay_7 rfl (lv_at hl 3 rfl) ?_
  refine zi_const hx hb dX1_delay_8 ?_
  refine lv_aload hx hb dX1_delay_9 (lv_at hl 0 rfl) ?_
  refine zgetN (own := RX1) (C := RX0) (T := TX0) (N := 13) (index := 110) (host := RX1) hx hb hts hinX0 hown hE hw (10 + 3 * i) (yE_p (by omega) hp0) rfl 0 (by decide) (by decide +kernel) rfl dX1_delay_11 ?_
  refine zi_const hx hb dX1_delay_14 ?_
  refine zi_sub hx hb dX1_delay_15 ?_
  refine zcallv (va_runS (As := [.int (iI (a)), .int (iI (0)), .int (iI ((p0.1 0) - 1))]) (rest := []) ⟨hx, hb, hml, hown, hts⟩ (c_X1_requireRange_ok l D cy A ad _ (a) (0) ((p0.1 0) - 1) (by omega) (by first | decide | (constructor <;> omega)) (by first | decide | (constructor <;> omega))) (va_cwS 3 hts gX1_delay_X1_requireRange rfl rfl rfl (by decide +kernel) ⟨(Nat.le_of_ble_eq_true rfl), (Nat.le_of_ble_eq_true rfl)⟩) (zPS hE hS) rfl rfl hl.1 rfl (lv_room (Nat.le_of_ble_eq_true rfl)) dX1_delay_16 ⟨(Nat.le_of_ble_eq_true rfl), (Nat.le_of_ble_eq_true rfl)⟩) hS (fun H1 locs hq hz1 hk1 hS => ?_)
  replace hq := hq.symm
  subst hq
  refine lv_iload_n hx hb dX1_delay_19 rfl (lv_at hl 4 rfl) ?_
  refine zi_const hx hb dX1_delay_20 ?_
  refine zi_bipush hx hb dX1_delay_21 (by decide) ?_
  refine zcallv (va_runS (As := [.int (iI (b)), .int (iI (1)), .int (iI (9))]) (rest := []) ⟨hx, hb, hml, hown, hts⟩ (c_X1_requireRange_ok l D cy A ad _ (b) (1) (9) (by omega) (by first | decide | (constructor <;> omega)) (by first | decide | (constructor <;> omega))) (va_cwS 3 hts gX1_delay_X1_requireRange rfl rfl rfl (by decide +kernel) ⟨(Nat.le_of_ble_eq_true rfl), (Nat.le_of_ble_eq_true rfl)⟩) (zPS hE hS) rfl rfl hl.1 rfl (lv_room (Nat.le_of_ble_eq_true rfl)) dX1_delay_23 ⟨(Nat.le_of_ble_eq_true rfl), (Nat.le_of_ble_eq_true rfl)⟩) hS (fun H1 locs hq hz1 hk1 hS => ?_)
  replace hq := hq.symm
  subst hq
  refine lv_aload hx hb dX1_delay_26 (lv_at hl 0 rfl) ?_
  refine zgetN (own := RX1) (C := RX0) (T := TX0) (N := 13) (index := 113) (host := RX1) hx hb hts hinX0 hown hE hw (10 + 3 * i) (yE_p (by omega) hp0) rfl 4 (by decide) (by decide +kernel) rfl dX1_delay_28 ?_
  refine zi_const hx hb dX1_delay_31 ?_
  refine zc_lt (tgt := 43) hx hb dX1_delay_32 (by decide) (by first | decide | (constructor <;> omega)) (by first | decide | (constructor <;> omega)) (fun c_32 => ?_) (fun c_32 => ?_)
  · refine lv_aload hx hb dX1_delay_43 (lv_at hl 0 rfl) ?_
    refine lv_iload_n hx hb dX1_delay_45 rfl (lv_at hl 3 rfl) ?_
    refine lv_iload_n hx hb dX1_delay_46 rfl (lv_at hl 4 rfl) ?_
    refine zcallv (va_runVN (As := [.int (iI (a)), .int (iI (b))]) (rest := []) ⟨hx, hb, hml, hown, hts⟩ (c_X0_addBreak l D cy A ad ya yi pr _ i p0 (a) (b) hw (by omega) hp0 hpb (by omega) (by omega) (by omega)) ⟨va_cnB 2 hts gX1_delay_X0_addBreak_n116 rfl rfl rfl (hE.2.1 (.methodLinkNest RX1 116 yX0_addBreak RX1) (by decide +kernel)) (hts (.initialized RX0) (by decide +kernel)) (by decide +kernel) ⟨(Nat.le_of_ble_eq_true rfl), (Nat.le_of_ble_eq_true rfl)⟩, hts (.instanceMethod yX0_addBreak) (by decide +kernel), hts (.selects RX0 yX0_addBreak yX0_addBreak) (by decide +kernel)⟩ (zPV hE hS hw (ci := 0) (k0 := 10 + 3 * i) rfl (yE_p (by omega) hp0)) rfl rfl hl.1 rfl (lv_room (Nat.le_of_ble_eq_true rfl)) dX1_delay_47 ⟨(Nat.le_of_ble_eq_true rfl), (Nat.le_of_ble_eq_true rfl)⟩) hS (fun H1 locs hq hz1 hk1 hS => ?_)
    obtain ⟨q_a, hw, hadR⟩ := hq
    have hpbA : pB q_a := pB_ad hpb h4 (by omega) h2 hadR
    have ha4 : q_a.1 4 = p0.1 4 + 1 := by rw [hadR.1, up_same]
    refine lv_aload_n hx hb dX1_delay_50 rfl (lv_at hl 1 rfl) ?_
    refine lv_aload hx hb dX1_delay_51 (lv_at hl 0 rfl) ?_
    refine zcallv (va_runV (As := [.ref (ad (10 + 3 * i))]) (rest := []) ⟨hx, hb, hml, hown, hts⟩ (c_X1_schedule l D cy A ad ya yi (va_up pr i (some q_a)) _ T i q_a hw (by omega) (up_same _ _ _) hpbA hg hG ht) (cwV 1 hts gX1_delay_X1_schedule rfl rfl rfl (by decide +kernel) ⟨(Nat.le_of_ble_eq_true rfl), (Nat.le_of_ble_eq_true rfl)⟩) (zPV hE hS hw (ci := 1) (k0 := 0) rfl yE_0) rfl rfl hl.1 rfl (lv_room (Nat.le_of_ble_eq_true rfl)) dX1_delay_53 ⟨(Nat.le_of_ble_eq_true rfl), (Nat.le_of_ble_eq_true rfl)⟩) hS (fun H1 locs hq hz1 hk1 hS => ?_)
    obtain ⟨q_s53, hw, hsch, hgv⟩ := hq
    refine lv_aload hx hb dX1_delay_56 (lv_at hl 0 rfl) ?_
    refine zgetN (own := RX1) (C := RX0) (T := TX0) (N := 13) (index := 113) (host := RX1) hx hb hts hinX0 hown hE hw (10 + 3 * i) (yE_p (by omega) (up_same _ _ _)) rfl 4 (by decide) (by decide +kernel) rfl dX1_delay_58 ?_
    have hz4 : q_s53.1 4 = p0.1 4 + 1 := hsch.1.2.2.2.2.trans ha4
    refine ziret hx hb hr hlocks hS (Nat.le_of_ble_eq_true rfl) (Nat.le_of_ble_eq_true rfl) (by first | decide | (constructor <;> omega)) ?_ dX1_delay_61
    rw [up_up] at hw
    exact ⟨_, _, hw, hadR, hsch, hz4⟩
  · exfalso; omega

set_option maxHeartbeats 4000000 in
set_option maxRecDepth 100000 in
theorem c_X1_earliest_ok (l : Launch) (D : va_G) (cy : Nat → ClassId) (A : Nat → Prop) (ad : Nat → Nat) (ya : Nat → Nat → Int) (yi : Nat → Int) (pr : Nat → Option PS) (H0 : Heap) (T : Nat → Int) (a b d f : Int) (hw : zW D A ad (yE cy ad ya yi pr) H0) (h1 : plOK a b d f) (ha : pA pr) (hg : yB yi) (hG : gnd T ya) (ht : tOK T) : Met l yX1_earliest wsX1_earliest ({ frames := 3, cells := 0, slots := 0, locals := 69 }) (zPc D cy A [.ref (ad 0), .int (iI (a)), .int (iI (b)), .int (iI (d)), .int (iI (f))] H0) (zQi (fun z H1 => ∃ yb, zW D A ad (yE cy ad yb yi pr) H1 ∧ (∀ r, r ≠ 2 → r ≠ 3 → yb r = ya r) ∧ earY T yi (fun h => nY pr h 10) a b d f z) A) 0 0 A := by
  refine Met.ofW (cc := cX1_earliest) (maxL := 9) (ret := (some .int)) (by decide) rfl ?_
  intro pg en s mt args below meth c s₁ B hml hv
  obtain ⟨rfl, hH, hE⟩ := hv
  subst hH
  have hx := B.exec
  have hb := B.bytes
  have hr := B.returns
  have hts := atoms_spec (ws := wsX1_earliest) B.pre
  have hown : s.vm.findClass RX1 = some mt.cls := findClass_of_methodNamed B.named
  have hlocks := B.notSynchronized
  have hinX1 : ∀ w ∈ u_ws RX1 TX1 9, w ∈ wsX1_earliest := by decide +kernel
  have hS : va_S A s.heap s.heap [] := va_S.rf
  have hl := lv_entry ([.ref (ad 0), .int (iI (a)), .int (iI (b)), .int (iI (d)), .int (iI (f))]) (n := 9) (Nat.le_of_ble_eq_true rfl)
  rw [lg_entry_eq]
  generalize (lg_sl ([.ref (ad 0), .int (iI (a)), .int (iI (b)), .int (iI (d)), .int (iI (f))]) ++ List.replicate (9 - (lg_sl ([.ref (ad 0), .int (iI (a)), .int (iI (b)), .int (iI (d)), .int (iI (f))])).length) Slot.unset).toArray = ls at hl ⊢
  have hl : lv_has ls 9 [(0, .ref (ad 0)), (1, .int (iI (a))), (2, .int (iI (b))), (3, .int (iI (d))), (4, .int (iI (f)))] := hl
  obtain ⟨g1, g2, g3, g4⟩ := id hg
  have hp9 : (0 ≤ a ∧ a ≤ 900) ∧ (1 ≤ b ∧ b ≤ 200) ∧ (1 ≤ d ∧ d ≤ 30) ∧ (1 ≤ f ∧ f ≤ 100) := h1
  refine lv_iload_n hx hb dX1_earliest_0 rfl (lv_at hl 1 rfl) ?_
  refine lv_iload_n hx hb dX1_earliest_1 rfl (lv_at hl 2 rfl) ?_
  refine lv_iload_n hx hb dX1_earliest_2 rfl (lv_at hl 3 rfl) ?_
  refine lv_iload hx hb dX1_earliest_3 (lv_at hl 4 rfl) ?_
  refine zcallv (va_runS (As := [.int (iI (a)), .int (iI (b)), .int (iI (d)), .int (iI (f))]) (rest := []) ⟨hx, hb, hml, hown, hts⟩ (c_X1_requirePour_ok l D cy A ad _ (a) (b) (d) (f) h1) (va_cwS 4 hts gX1_earliest_X1_requirePour rfl rfl rfl (by decide +kernel) ⟨(Nat.le_of_ble_eq_true rfl), (Nat.le_of_ble_eq_true rfl)⟩) (zPS hE hS) rfl rfl hl.1 rfl (lv_room (Nat.le_of_ble_eq_true rfl)) dX1_earliest_5 ⟨(Nat.le_of_ble_eq_true rfl), (Nat.le_of_ble_eq_true rfl)⟩) hS (fun H1 locs hq hz1 hk1 hS => ?_)
  replace hq := hq.symm
  subst hq
  refine lv_aload_n hx hb dX1_earliest_8 rfl (lv_at hl 0 rfl) ?_
  refine zcallv (va_runV (As := []) (rest := []) ⟨hx, hb, hml, hown, hts⟩ (c_X1_sumNeeds l D cy A ad ya yi pr _ hw ha) (cwV 0 hts gX1_earliest_X1_sumNeeds rfl rfl rfl (by decide +kernel) ⟨(Nat.le_of_ble_eq_true rfl), (Nat.le_of_ble_eq_true rfl)⟩) (zPV hE hS hw (ci := 1) (k0 := 0) rfl yE_0) rfl rfl hl.1 rfl (lv_room (Nat.le_of_ble_eq_true rfl)) dX1_earliest_9 ⟨(Nat.le_of_ble_eq_true rfl), (Nat.le_of_ble_eq_true rfl)⟩) hS (fun H1 locs hq hz1 hk1 hS => ?_)
  obtain ⟨ya_c9, hw, hnr_9, hnn_9⟩ := hq
  refine lv_aload_n hx hb dX1_earliest_12 rfl (lv_at hl 0 rfl) ?_
  refine lv_iload_n hx hb dX1_earliest_13 rfl (lv_at hl 3 rfl) ?_
  refine zcallv (va_runV (As := [.int (iI (d))]) (rest := []) ⟨hx, hb, hml, hown, hts⟩ (c_X1_markFullHours l D cy A ad ya_c9 yi pr _ (d) hw (by omega) (fun j hj => by rw [hnn_9 j hj]; have := nY_b (h := j) ha (Nat.le_refl 10); omega) hg) (cwV 1 hts gX1_earliest_X1_markFullHours rfl rfl rfl (by decide +kernel) ⟨(Nat.le_of_ble_eq_true rfl), (Nat.le_of_ble_eq_true rfl)⟩) (zPV hE hS hw (ci := 1) (k0 := 0) rfl yE_0) rfl rfl hl.1 rfl (lv_room (Nat.le_of_ble_eq_true rfl)) dX1_earliest_14 ⟨(Nat.le_of_ble_eq_true rfl), (Nat.le_of_ble_eq_true rfl)⟩) hS (fun H1 locs hq hz1 hk1 hS => ?_)
  obtain ⟨ya_c14, hw, hfr_14, hff_14⟩ := hq
  have hGc : gnd T ya_c14 := fun n hn => by rw [hfr_14 1 (by decide), hnr_9 1 (by decide)]; exact hG n hn
  refine lv_aload_n hx hb dX1_earliest_17 rfl (lv_at hl 0 rfl) ?_
  refine lv_iload_n hx hb dX1_earliest_18 rfl (lv_at hl 2 rfl) ?_
  refine zcalli (va_runV (As := [.int (iI (b))]) (rest := []) ⟨hx, hb, hml, hown, hts⟩ (c_X1_startedHours l D cy A ad ya_c14 yi pr _ (b) hw (by omega) hg) (cwV 1 hts gX1_earliest_X1_startedHours rfl rfl rfl (by decide +kernel) ⟨(Nat.le_of_ble_eq_true rfl), (Nat.le_of_ble_eq_true rfl)⟩) (zPV hE hS hw (ci := 1) (k0 := 0) rfl yE_0) rfl rfl hl.1 rfl (lv_room (Nat.le_of_ble_eq_true rfl)) dX1_earliest_19 ⟨(Nat.le_of_ble_eq_true rfl), (Nat.le_of_ble_eq_true rfl)⟩) hS (fun z_19 H1 locs hz_19 hq hz1 hk1 hS => ?_)
  obtain ⟨hqe, hv_19⟩ := hq
  replace hqe := hqe.symm
  subst hqe
  have hd := div_b (a := b + yi 6 - 1) (b := yi 6) (by omega) (by omega)
  have hd1 : 1 ≤ (b + yi 6 - 1) / yi 6 := Int.le_ediv_of_mul_le (by omega) (by omega)
  refine lv_istore (lv' := [(5, .int (iI (z_19))), (0, .ref (ad 0)), (1, .int (iI (a))), (2, .int (iI (b))), (3, .int (iI (d))), (4, .int (iI (f)))]) hx hb dX1_earliest_22 hl (by decide) rfl (fun ls hl => ?_)
  refine lv_iload_n hx hb dX1_earliest_24 rfl (lv_at hl 2 rfl) ?_
  refine lv_istore (lv' := [(6, .int (iI (a))), (5, .int (iI (z_19))), (0, .ref (ad 0)), (1, .int (iI (a))), (2, .int (iI (b))), (3, .int (iI (d))), (4, .int (iI (f)))]) hx hb dX1_earliest_25 hl (by decide) rfl (fun ls hl => ?_)
  have loop_27 : ∀ (n : Nat) (x : Int) (H : Heap) (locs : List Loc) (ls : Array Slot), (901 - x).toNat < n → (a ≤ x ∧ x ≤ 901) → (∀ y, a ≤ y → y < x → ¬ feY T yi (fun h => nY pr h 10) b d f y) → zW D A ad (yE cy ad ya_c14 yi pr) H → va_S A s.heap H locs → lv_has ls 9 [(6, .int (iI (x))), (5, .int (iI (z_19))), (0, .ref (ad 0)), (1, .int (iI (a))), (2, .int (iI (b))), (3, .int (iI (d))), (4, .int (iI (f)))] → W pg l en (headSpec wsX1_earliest ({ frames := 3, cells := 0, slots := 0, locals := 69 })).room s mt ([.ref (ad 0), .int (iI (a)), .int (iI (b)), .int (iI (d)), .int (iI (f))] : List Value).toArray below meth c H locs 0 0 (MQ below (zQi (fun z H1 => ∃ yb, zW D A ad (yE cy ad yb yi pr) H1 ∧ (∀ r, r ≠ 2 → r ≠ 3 → yb r = ya r) ∧ earY T yi (fun h => nY pr h 10) a b d f z) A) ([.ref (ad 0), .int (iI (a)), .int (iI (b)), .int (iI (d)), .int (iI (f))] : List Value).toArray s 0 0 A) (F0 mt 27 ls []) := by
    intro n
    induction n with
    | zero =>
      intro x H locs ls hm hi9 hno
      exfalso; omega
    | succ n ih =>
      intro x H locs ls hm hi9 hno hw hS hl
      refine lv_iload hx hb dX1_earliest_27 (lv_at hl 0 rfl) ?_
      refine zi_sipush hx hb dX1_earliest_29 (by decide) ?_
      refine zc_gt (tgt := 89) hx hb dX1_earliest_32 (by decide) (by first | decide | (constructor <;> omega)) (by first | decide | (constructor <;> omega)) (fun c_32 => ?_) (fun c_32 => ?_)
      · refine zi_const hx hb dX1_earliest_89 ?_
        refine ziret hx hb hr hlocks hS (Nat.le_of_ble_eq_true rfl) (Nat.le_of_ble_eq_true rfl) (by first | decide | (constructor <;> omega)) ?_ dX1_earliest_90
        refine ⟨_, hw, fun r h2 h3 => (hfr_14 r h3).trans (hnr_9 r h2), ?_⟩
        exact Or.inr ⟨rfl, fun y h1 h2 => hno y h1 (by omega)⟩
      · refine lv_aload_n hx hb dX1_earliest_35 rfl (lv_at hl 2 rfl) ?_
        refine lv_iload hx hb dX1_earliest_36 (lv_at hl 0 rfl) ?_
        refine zcalli (va_runV (As := [.int (iI (x))]) (rest := []) ⟨hx, hb, hml, hown, hts⟩ (c_X1_standHour l D cy A ad ya_c14 yi pr _ (x) hw (by omega) hg) (cwV 1 hts gX1_earliest_X1_standHour rfl rfl rfl (by decide +kernel) ⟨(Nat.le_of_ble_eq_true rfl), (Nat.le_of_ble_eq_true rfl)⟩) (zPV hE hS hw (ci := 1) (k0 := 0) rfl yE_0) rfl rfl hl.1 rfl (lv_room (Nat.le_of_ble_eq_true rfl)) dX1_earliest_38 ⟨(Nat.le_of_ble_eq_true rfl), (Nat.le_of_ble_eq_true rfl)⟩) hS (fun z_38 H1 locs hz_38 hq hz1 hk1 hS => ?_)
        obtain ⟨hqe, hv_38⟩ := hq
        replace hqe := hqe.symm
        subst hqe
        have hst9 : 0 ≤ z_38 ∧ z_38 ≤ 900 := by rw [hv_38]; unfold standS; split <;> omega
        refine lv_istore (lv' := [(7, .int (iI (z_38))), (6, .int (iI (x))), (5, .int (iI (z_19))), (0, .ref (ad 0)), (1, .int (iI (a))), (2, .int (iI (b))), (3, .int (iI (d))), (4, .int (iI (f)))]) hx hb dX1_earliest_41 hl (by decide) rfl (fun ls hl => ?_)
        refine lv_aload_n hx hb dX1_earliest_43 rfl (lv_at hl 3 rfl) ?_
        refine lv_aload_n hx hb dX1_earliest_44 rfl (lv_at hl 3 rfl) ?_
        refine lv_iload hx hb dX1_earliest_45 (lv_at hl 1 rfl) ?_
        refine lv_iload hx hb dX1_earliest_47 (lv_at hl 2 rfl) ?_
        refine zi_add hx hb dX1_earliest_49 ?_
        refine lv_iload hx hb dX1_earliest_50 (lv_at hl 7 rfl) ?_
        refine zcalli (va_runV (As := [.int (iI (x + z_19)), .int (iI (f))]) (rest := [.ref (ad 0)]) ⟨hx, hb, hml, hown, hts⟩ (c_X1_strikeHour l D cy A ad ya_c14 yi pr _ T (x + z_19) (f) hw (by omega) (by omega) hGc ht) (cwV 2 hts gX1_earliest_X1_strikeHour rfl rfl rfl (by decide +kernel) ⟨(Nat.le_of_ble_eq_true rfl), (Nat.le_of_ble_eq_true rfl)⟩) (zPV hE hS hw (ci := 1) (k0 := 0) rfl yE_0) rfl rfl hl.1 rfl (lv_room (Nat.le_of_ble_eq_true rfl)) dX1_earliest_52 ⟨(Nat.le_of_ble_eq_true rfl), (Nat.le_of_ble_eq_true rfl)⟩) hS (fun z_52 H1 locs hz_52 hq hz1 hk1 hS => ?_)
        obtain ⟨hqe, hv_52⟩ := hq
        replace hqe := hqe.symm
        subst hqe
        have hkn : 0 ≤ strikeS T f (x + z_19) := by have := (strikeS_b T f (x + z_19)).1; omega
        have hz52 : -1 ≤ z_52 ∧ z_52 < 1000 := by rw [hv_52]; split <;> omega
        refine zcalli (va_runV (As := [.int (iI (z_52))]) (rest := []) ⟨hx, hb, hml, hown, hts⟩ (c_X1_releaseHour l D cy A ad ya_c14 yi pr _ (z_52) (strikeS T f (x + z_19)) hw ⟨hkn, hv_52⟩ hg) (cwV 1 hts gX1_earliest_X1_releaseHour rfl rfl rfl (by decide +kernel) ⟨(Nat.le_of_ble_eq_true rfl), (Nat.le_of_ble_eq_true rfl)⟩) (zPV hE hS hw (ci := 1) (k0 := 0) rfl yE_0) rfl rfl hl.1 rfl (lv_room (Nat.le_of_ble_eq_true rfl)) dX1_earliest_55 ⟨(Nat.le_of_ble_eq_true rfl), (Nat.le_of_ble_eq_true rfl)⟩) hS (fun z_55 H1 locs hz_55 hq hz1 hk1 hS => ?_)
        obtain ⟨hqe, hv_55⟩ := hq
        replace hqe := hqe.symm
        subst hqe
        refine lv_istore (lv' := [(8, .int (iI (z_55))), (7, .int (iI (z_38))), (6, .int (iI (x))), (5, .int (iI (z_19))), (0, .ref (ad 0)), (1, .int (iI (a))), (2, .int (iI (b))), (3, .int (iI (d))), (4, .int (iI (f)))]) hx hb dX1_earliest_58 hl (by decide) rfl (fun ls hl => ?_)
        refine lv_iload hx hb dX1_earliest_60 (lv_at hl 1 rfl) ?_
        refine zcalli (va_runS (As := [.int (iI (z_38))]) (rest := []) ⟨hx, hb, hml, hown, hts⟩ (c_X1_isHour l D cy A ad _ (z_38) (by first | decide | (constructor <;> omega))) (va_cwS 1 hts gX1_earliest_X1_isHour rfl rfl rfl (by decide +kernel) ⟨(Nat.le_of_ble_eq_true rfl), (Nat.le_of_ble_eq_true rfl)⟩) (zPS hE hS) rfl rfl hl.1 rfl (lv_room (Nat.le_of_ble_eq_true rfl)) dX1_earliest_62 ⟨(Nat.le_of_ble_eq_true rfl), (Nat.le_of_ble_eq_true rfl)⟩) hS (fun z_62 H1 locs hz_62 hq hz1 hk1 hS => ?_)
        obtain ⟨hqe, hv_62⟩ := hq
        replace hqe := hqe.symm
        subst hqe
        refine zf_eq (tgt := 83) hx hb dX1_earliest_65 (by decide) (by first | decide | (constructor <;> omega)) (fun c_65 => ?_) (fun c_65 => ?_)
        · exfalso; omega
        · refine lv_aload_n hx hb dX1_earliest_68 rfl (lv_at hl 4 rfl) ?_
          refine zget (C := RX1) (T := TX1) (N := 9) hx hb hts hinX1 hown hE hw 0 yE_0 rfl 3 (by decide) (hts (.fieldLink RX1 19 "FormworkYard" "nextFull" "[I") (by decide +kernel)) rfl dX1_earliest_69 ?_
          refine lv_iload hx hb dX1_earliest_72 (lv_at hl 1 rfl) ?_
          refine ziald hx hb hE hw 4 yE_4 (z_38).toNat (by omega) (by omega) (by omega) dX1_earliest_74 ?_
          refine zi_top (fun v_74 hv_74 => ?_)
          have hff := hff_14 z_38 (by omega) (by omega)
          have hv74 : v_74 = fnd (fun y : Int => yi 5 < ya_c9 2 y.toNat + d) z_38 (1000 - z_38).toNat := by rw [hv_74]; exact hff
          have hPP : ∀ y : Int, 0 ≤ y → y < 1000 → ((yi 5 < ya_c9 2 y.toNat + d) ↔ ¬ (nY pr y 10 + d ≤ yi 5)) := fun y hy1 hy2 => by rw [hnn_9 y.toNat (by omega), show ((y.toNat : Nat) : Int) = y by omega]; omega
          have hfi := fnd_iff (fun y : Int => yi 5 < ya_c9 2 y.toNat + d) (lo := z_38) (hi := freeS (yi 8) (strikeS T f (x + z_19))) (by omega)
          have hsb := (strikeS_b T f (x + z_19)).1
          have hfr9 : z_38 < freeS (yi 8) (strikeS T f (x + z_19)) := by rw [hv_38]; unfold freeS standS; split <;> split <;> omega
          have hfn := (fnd_b (fun y : Int => yi 5 < ya_c9 2 y.toNat + d) (1000 - z_38).toNat z_38).2.1
          have hfn1 := (fnd_b (fun y : Int => yi 5 < ya_c9 2 y.toNat + d) (1000 - z_38).toNat z_38).1
          refine lv_iload hx hb dX1_earliest_75 (lv_at hl 0 rfl) ?_
          refine zc_lt (tgt := 83) hx hb dX1_earliest_77 (by decide) (by first | decide | (constructor <;> omega)) (by first | decide | (constructor <;> omega)) (fun c_77 => ?_) (fun c_77 => ?_)
          · have hfe : ¬ feY T yi (fun h => nY pr h 10) b d f x := by
              intro hf
              have h9 := hfi.mpr (fun y hy1 hy2 hy3 hP => (hPP y (by omega) hy3).mp hP (hf y (by rw [← hv_38]; exact hy1) (by rw [← hv_19]; exact hy2) hy3))
              rcases h9 with h9 | h9
              · rw [← hv74, ← hv_55] at h9; omega
              · omega
            refine zi_iinc (lv' := [(6, .int (iI (x + 1))), (8, .int (iI (z_55))), (7, .int (iI (z_38))), (5, .int (iI (z_19))), (0, .ref (ad 0)), (1, .int (iI (a))), (2, .int (iI (b))), (3, .int (iI (d))), (4, .int (iI (f)))]) hx hb dX1_earliest_83 hl (k := 2) rfl (by decide) rfl (fun ls hl => ?_)
            refine lv_goto (tgt := 27) hx hb dX1_earliest_86 (by decide) ?_
            exact ih (x + 1) _ _ _ (by omega) (by omega) (fun y h1 h2 => by by_cases hyx : y = x; (subst hyx; exact hfe); exact hno y h1 (by omega)) hw hS (lv_sub hl [0, 3, 4, 5, 6, 7, 8] rfl)
          · have hfe : feY T yi (fun h => nY pr h 10) b d f x := by
              intro y hy1 hy2 hy3
              rw [← hv_38] at hy1
              rw [← hv_19] at hy2
              have h9 := hfi.mp (Or.inl (by rw [← hv74, ← hv_55]; omega)) y hy1 hy2 hy3
              have hb9 := hPP y (by omega) hy3
              exact Classical.not_not.mp (fun hn => h9 (hb9.mpr hn))
            refine lv_iload hx hb dX1_earliest_80 (lv_at hl 2 rfl) ?_
            refine ziret hx hb hr hlocks hS (Nat.le_of_ble_eq_true rfl) (Nat.le_of_ble_eq_true rfl) (by first | decide | (constructor <;> omega)) ?_ dX1_earliest_82
            refine ⟨_, hw, fun r h2 h3 => (hfr_14 r h3).trans (hnr_9 r h2), ?_⟩
            exact Or.inl ⟨by omega, by omega, hfe, hno⟩
  exact loop_27 902 a _ _ _ (by omega) (by omega) (fun y h1 h2 => absurd h1 (by omega)) hw hS (lv_sub hl [0, 1, 2, 3, 4, 5, 6] rfl)
