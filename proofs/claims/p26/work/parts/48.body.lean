/-! ===== the law's body in pieces ===== -/
set_option maxHeartbeats 4000000 in
set_option maxRecDepth 100000 in
theorem k_t1 {pg : Program} {l : Launch} {en : Env} {s : State} {mt : MethodId} {below : List Frame} {meth : Method} {c : Code} {b : Nat} {D : va_G} {cy : Nat → ClassId} {A : Nat → Prop} (hC : LC pg s mt c b D cy A) {H : Heap} {locs : List Loc} {cells slots : Nat} {Q : State → Prop} {ls : Array Slot} (hS : va_S A s.heap H locs) (hcR : cells + 3 ≤ room_1.cells) (hsR : slots + 21 ≤ room_1.slots) {ad : Nat → Nat} {T : Nat → Int} {yi : Nat → Int} {pr : Nat → Option PS} {la : Nat → Nat → Int} (hw : LW D cy A ad T yi pr la H) (hys : YS T yi pr) (hla : LA yi pr la) {k : Nat} {w : Int} (hl : lv_has ls 16 [(0, .ref b), (1, .ref (ad 0)), (2, .ref (ad 43)), (3, .ref (ad 44)), (4, .ref (ad 45)), (5, .ref (ad 46)), (6, .ref (ad 47)), (7, .int (iI ((k : Int)))), (9, .int (iI (w)))]) (kk : ∀ (H1 : Heap) (locs1 : List Loc) (ls1 : Array Slot), va_S A s.heap H1 locs1 → LW D cy A ad T yi pr la H1 → lv_has ls1 16 [(12, .int (iI (1))), (0, .ref b), (1, .ref (ad 0)), (2, .ref (ad 43)), (3, .ref (ad 44)), (4, .ref (ad 45)), (5, .ref (ad 46)), (6, .ref (ad 47)), (7, .int (iI ((k : Int)))), (9, .int (iI (w)))] → W pg l en room_1 s mt #[Value.ref b] below meth c H1 locs1 (cells) (slots) Q (F0 mt 555 ls1 []))  :
    W pg l en room_1 s mt #[Value.ref b] below meth c H locs cells slots Q (F0 mt 506 ls []) := by
  obtain ⟨⟨hx, hb, hml, hown, hts⟩, hE, hAf⟩ := id hC
  have hq1 : cells ≤ room_1.cells := Nat.le_trans (Nat.le_add_right _ 3) hcR
  have hq2 : slots ≤ room_1.slots := Nat.le_trans (Nat.le_add_right _ 21) hsR
  obtain ⟨hl0, t0, t1, t2⟩ := id hla
  have hyb := hys.2.1
  unfold yB at hyb
  have hl : lv_has ls 16 [(0, .ref b), (1, .ref (ad 0)), (2, .ref (ad 43)), (3, .ref (ad 44)), (4, .ref (ad 45)), (5, .ref (ad 46)), (6, .ref (ad 47)), (7, .int (iI ((k : Int)))), (9, .int (iI (w)))] := hl
  refine lv_aload_n hx hb dL_law_506 rfl (lv_at hl 1 rfl) ?_
  refine zcalli (va_runV (As := []) (rest := []) ⟨hx, hb, hml, hown, hts⟩ (c_Q_peak l D cy A ad T yi pr la _ hw hys) (cwV 0 hts gL_law_X1_peak rfl rfl rfl (by decide +kernel) ⟨(Nat.le_of_ble_eq_true rfl), (Nat.le_of_ble_eq_true rfl)⟩) (l_PV hE hS hw) rfl rfl hl.1 rfl (lv_room (Nat.le_of_ble_eq_true rfl)) dL_law_507 ⟨hq1, hq2⟩) hS (fun z_507 H1 locs hz_507 hq hz1 hk1 hS => ?_)
  obtain ⟨hw, hv_507⟩ := hq
  refine lv_aload_n hx hb dL_law_510 rfl (lv_at hl 1 rfl) ?_
  refine zcalli (va_runV (As := []) (rest := [.int (iI (z_507))]) ⟨hx, hb, hml, hown, hts⟩ (c_Q_peakByOverlaps l D cy A ad T yi pr la _ hw hys) (cwV 0 hts gL_law_X1_peakByOverlaps rfl rfl rfl (by decide +kernel) ⟨(Nat.le_of_ble_eq_true rfl), (Nat.le_of_ble_eq_true rfl)⟩) (l_PV hE hS hw) rfl rfl hl.1 rfl (lv_room (Nat.le_of_ble_eq_true rfl)) dL_law_511 ⟨hq1, hq2⟩) hS (fun z_511 H1 locs hz_511 hq hz1 hk1 hS => ?_)
  obtain ⟨hw, hv_511⟩ := hq
  refine zc_ne (tgt := 552) hx hb dL_law_514 (by decide) (by first | decide | (constructor <;> omega)) (by first | decide | (constructor <;> omega)) (fun c_514 => ?_) (fun c_514 => ?_)
  · exfalso; omega
  · refine lv_aload_n hx hb dL_law_517 rfl (lv_at hl 1 rfl) ?_
    refine zcalli (va_runV (As := []) (rest := []) ⟨hx, hb, hml, hown, hts⟩ (c_Q_peak l D cy A ad T yi pr la _ hw hys) (cwV 0 hts gL_law_X1_peak rfl rfl rfl (by decide +kernel) ⟨(Nat.le_of_ble_eq_true rfl), (Nat.le_of_ble_eq_true rfl)⟩) (l_PV hE hS hw) rfl rfl hl.1 rfl (lv_room (Nat.le_of_ble_eq_true rfl)) dL_law_518 ⟨hq1, hq2⟩) hS (fun z_518 H1 locs hz_518 hq hz1 hk1 hS => ?_)
    obtain ⟨hw, hv_518⟩ := hq
    refine lv_aload hx hb dL_law_521 (lv_at hl 6 rfl) ?_
    refine zi_const hx hb dL_law_523 ?_
    refine l_ald hx hb hE hw 4 (by decide) 2 rfl (by decide) dL_law_524 ?_
    refine zi_top (fun v_524 hv_524 => ?_)
    refine zc_gt (tgt := 532) hx hb dL_law_525 (by decide) (by first | decide | (constructor <;> omega)) (by first | decide | (constructor <;> omega)) (fun c_525 => ?_) (fun c_525 => ?_)
    · refine zi_const hx hb dL_law_532 ?_
      refine lv_aload_n hx hb dL_law_533 rfl (lv_at hl 1 rfl) ?_
      refine zcalli (va_runV (As := []) (rest := [.int (iI (0))]) ⟨hx, hb, hml, hown, hts⟩ (c_Q_firstShort l D cy A ad T yi pr la _ hw hys) (cwV 0 hts gL_law_X1_firstShort rfl rfl rfl (by decide +kernel) ⟨(Nat.le_of_ble_eq_true rfl), (Nat.le_of_ble_eq_true rfl)⟩) (l_PV hE hS hw) rfl rfl hl.1 rfl (lv_room (Nat.le_of_ble_eq_true rfl)) dL_law_534 ⟨hq1, hq2⟩) hS (fun z_534 H1 locs hz_534 hq hz1 hk1 hS => ?_)
      obtain ⟨hw, hv_534⟩ := hq
      have hfb := fsY_b pr (yi 5)
      have hpk := fsY_pk (pr := pr) (n := yi 5) hyb.1.1
      refine zf_ge (tgt := 544) hx hb dL_law_537 (by decide) (by first | decide | (constructor <;> omega)) (fun c_537 => ?_) (fun c_537 => ?_)
      · refine zi_const hx hb dL_law_544 ?_
        refine zc_ne (tgt := 552) hx hb dL_law_545 (by decide) (by first | decide | (constructor <;> omega)) (by first | decide | (constructor <;> omega)) (fun c_545 => ?_) (fun c_545 => ?_)
        · exfalso; omega
        · refine zi_const hx hb dL_law_548 ?_
          refine lv_goto (tgt := 553) hx hb dL_law_549 (by decide) ?_
          refine lv_istore (lv' := [(12, .int (iI (1))), (0, .ref b), (1, .ref (ad 0)), (2, .ref (ad 43)), (3, .ref (ad 44)), (4, .ref (ad 45)), (5, .ref (ad 46)), (6, .ref (ad 47)), (7, .int (iI ((k : Int)))), (9, .int (iI (w)))]) hx hb dL_law_553 hl (by decide) rfl (fun ls hl => ?_)
          exact kk _ _ _ hS hw (lv_sub hl [0, 1, 2, 3, 4, 5, 6, 7, 8, 9] rfl)
      · exfalso; omega
    · refine zi_const hx hb dL_law_528 ?_
      refine lv_goto (tgt := 533) hx hb dL_law_529 (by decide) ?_
      refine lv_aload_n hx hb dL_law_533 rfl (lv_at hl 1 rfl) ?_
      refine zcalli (va_runV (As := []) (rest := [.int (iI (1))]) ⟨hx, hb, hml, hown, hts⟩ (c_Q_firstShort l D cy A ad T yi pr la _ hw hys) (cwV 0 hts gL_law_X1_firstShort rfl rfl rfl (by decide +kernel) ⟨(Nat.le_of_ble_eq_true rfl), (Nat.le_of_ble_eq_true rfl)⟩) (l_PV hE hS hw) rfl rfl hl.1 rfl (lv_room (Nat.le_of_ble_eq_true rfl)) dL_law_534 ⟨hq1, hq2⟩) hS (fun z_534 H1 locs hz_534 hq hz1 hk1 hS => ?_)
      obtain ⟨hw, hv_534⟩ := hq
      have hfb := fsY_b pr (yi 5)
      have hpk := fsY_pk (pr := pr) (n := yi 5) hyb.1.1
      refine zf_ge (tgt := 544) hx hb dL_law_537 (by decide) (by first | decide | (constructor <;> omega)) (fun c_537 => ?_) (fun c_537 => ?_)
      · exfalso; omega
      · refine zi_const hx hb dL_law_540 ?_
        refine lv_goto (tgt := 545) hx hb dL_law_541 (by decide) ?_
        refine zc_ne (tgt := 552) hx hb dL_law_545 (by decide) (by first | decide | (constructor <;> omega)) (by first | decide | (constructor <;> omega)) (fun c_545 => ?_) (fun c_545 => ?_)
        · exfalso; omega
        · refine zi_const hx hb dL_law_548 ?_
          refine lv_goto (tgt := 553) hx hb dL_law_549 (by decide) ?_
          refine lv_istore (lv' := [(12, .int (iI (1))), (0, .ref b), (1, .ref (ad 0)), (2, .ref (ad 43)), (3, .ref (ad 44)), (4, .ref (ad 45)), (5, .ref (ad 46)), (6, .ref (ad 47)), (7, .int (iI ((k : Int)))), (9, .int (iI (w)))]) hx hb dL_law_553 hl (by decide) rfl (fun ls hl => ?_)
          exact kk _ _ _ hS hw (lv_sub hl [0, 1, 2, 3, 4, 5, 6, 7, 8, 9] rfl)

set_option maxHeartbeats 4000000 in
set_option maxRecDepth 100000 in
theorem k_t2 {pg : Program} {l : Launch} {en : Env} {s : State} {mt : MethodId} {below : List Frame} {meth : Method} {c : Code} {b : Nat} {D : va_G} {cy : Nat → ClassId} {A : Nat → Prop} (hC : LC pg s mt c b D cy A) {H : Heap} {locs : List Loc} {cells slots : Nat} {Q : State → Prop} {ls : Array Slot} (hS : va_S A s.heap H locs) (hcR : cells + 3 ≤ room_1.cells) (hsR : slots + 21 ≤ room_1.slots) {ad : Nat → Nat} {T : Nat → Int} {yi : Nat → Int} {pr : Nat → Option PS} {la : Nat → Nat → Int} (hw : LW D cy A ad T yi pr la H) (hys : YS T yi pr) (hla : LA yi pr la) {k : Nat} {w : Int} (hzw : zr w) (hl : lv_has ls 16 [(12, .int (iI (1))), (0, .ref b), (1, .ref (ad 0)), (2, .ref (ad 43)), (3, .ref (ad 44)), (4, .ref (ad 45)), (5, .ref (ad 46)), (6, .ref (ad 47)), (7, .int (iI ((k : Int)))), (9, .int (iI (w)))]) (kk : ∀ (H1 : Heap) (locs1 : List Loc) (ls1 : Array Slot), va_S A s.heap H1 locs1 → LW D cy A ad T yi pr la H1 → lv_has ls1 16 [(0, .ref b), (1, .ref (ad 0)), (2, .ref (ad 43)), (3, .ref (ad 44)), (4, .ref (ad 45)), (5, .ref (ad 46)), (6, .ref (ad 47)), (7, .int (iI ((k : Int))))] → W pg l en room_1 s mt #[Value.ref b] below meth c H1 locs1 (cells) (slots) Q (F0 mt 646 ls1 []))  :
    W pg l en room_1 s mt #[Value.ref b] below meth c H locs cells slots Q (F0 mt 555 ls []) := by
  obtain ⟨⟨hx, hb, hml, hown, hts⟩, hE, hAf⟩ := id hC
  have hq1 : cells ≤ room_1.cells := Nat.le_trans (Nat.le_add_right _ 3) hcR
  have hq2 : slots ≤ room_1.slots := Nat.le_trans (Nat.le_add_right _ 21) hsR
  obtain ⟨hl0, t0, t1, t2⟩ := id hla
  have hyb := hys.2.1
  unfold yB at hyb
  have hl : lv_has ls 16 [(12, .int (iI (1))), (0, .ref b), (1, .ref (ad 0)), (2, .ref (ad 43)), (3, .ref (ad 44)), (4, .ref (ad 45)), (5, .ref (ad 46)), (6, .ref (ad 47)), (7, .int (iI ((k : Int)))), (9, .int (iI (w)))] := hl
  refine zi_const hx hb dL_law_555 ?_
  refine lv_istore (lv' := [(13, .int (iI (0))), (12, .int (iI (1))), (0, .ref b), (1, .ref (ad 0)), (2, .ref (ad 43)), (3, .ref (ad 44)), (4, .ref (ad 45)), (5, .ref (ad 46)), (6, .ref (ad 47)), (7, .int (iI ((k : Int)))), (9, .int (iI (w)))]) hx hb dL_law_556 hl (by decide) rfl (fun ls hl => ?_)
  have loop_558 : ∀ (n : Nat) (i : Nat) (H : Heap) (locs : List Loc) (ls : Array Slot), 10 - i < n → (i ≤ 10) → LW D cy A ad T yi pr la H → va_S A s.heap H locs → lv_has ls 16 [(13, .int (iI ((i : Int)))), (12, .int (iI (1))), (0, .ref b), (1, .ref (ad 0)), (2, .ref (ad 43)), (3, .ref (ad 44)), (4, .ref (ad 45)), (5, .ref (ad 46)), (6, .ref (ad 47)), (7, .int (iI ((k : Int)))), (9, .int (iI (w)))] → W pg l en room_1 s mt #[Value.ref b] below meth c H locs cells slots Q (F0 mt 558 ls []) := by
    intro n
    induction n with
    | zero =>
      intro i H locs ls hm hi
      exfalso; omega
    | succ n ih =>
      intro i H locs ls hm hi hw hS hl
      refine lv_iload hx hb dL_law_558 (lv_at hl 0 rfl) ?_
      refine zi_bipush hx hb dL_law_560 (by decide) ?_
      refine zc_ge (tgt := 616) hx hb dL_law_562 (by decide) (by first | decide | (constructor <;> omega)) (by first | decide | (constructor <;> omega)) (fun c_562 => ?_) (fun c_562 => ?_)
      · refine lv_iload hx hb dL_law_616 (lv_at hl 1 rfl) ?_
        refine zf_eq (tgt := 644) hx hb dL_law_618 (by decide) (by first | decide | (constructor <;> omega)) (fun c_618 => ?_) (fun c_618 => ?_)
        · exfalso; omega
        · refine lv_aload_n hx hb dL_law_621 rfl (lv_at hl 3 rfl) ?_
          refine lv_aload_n hx hb dL_law_622 rfl (lv_at hl 4 rfl) ?_
          refine lv_aload_n hx hb dL_law_623 rfl (lv_at hl 5 rfl) ?_
          refine lv_aload hx hb dL_law_624 (lv_at hl 7 rfl) ?_
          refine lv_aload hx hb dL_law_626 (lv_at hl 8 rfl) ?_
          refine lv_iload hx hb dL_law_628 (lv_at hl 10 rfl) ?_
          refine zi_const hx hb dL_law_630 ?_
          refine lv_ishr hx hb dL_law_631 ?_
          refine zi_any (fun w_631 hw_631 => ?_)
          refine zi_sipush hx hb dL_law_632 (by decide) ?_
          refine zcalli (va_runS (As := [.int (iI (w_631)), .int (iI (160))]) (rest := [.ref (ad 47), .ref (ad 46), .ref (ad 44), .ref (ad 43), .ref (ad 0)]) ⟨hx, hb, hml, hown, hts⟩ (c_L_low l D cy A ad _ (w_631) (160) (by first | assumption | (constructor <;> omega)) (by omega)) (va_cwS 2 hts gL_law_L_low rfl rfl rfl (by decide +kernel) ⟨(Nat.le_of_ble_eq_true rfl), (Nat.le_of_ble_eq_true rfl)⟩) (zPS hE hS) rfl rfl hl.1 rfl (lv_room (Nat.le_of_ble_eq_true rfl)) dL_law_635 ⟨hq1, hq2⟩) hS (fun z_635 H1 locs hz_635 hq hz1 hk1 hS => ?_)
          obtain ⟨hqe, hv_635, hu_635⟩ := hq
          replace hqe := hqe.symm
          subst hqe
          refine zcalli (va_runS (As := [.ref (ad 0), .ref (ad 43), .ref (ad 44), .ref (ad 46), .ref (ad 47), .int (iI (z_635))]) (rest := []) ⟨hx, hb, hml, hown, hts⟩ (c_L_isHour l D cy A ad T yi pr la _ (z_635) hw hys hla (by omega)) (va_cwS 6 hts gL_law_L_isHour rfl rfl rfl (by decide +kernel) ⟨(Nat.le_of_ble_eq_true rfl), (Nat.le_of_ble_eq_true rfl)⟩) (zPS hE hS) rfl rfl hl.1 rfl (lv_room (Nat.le_of_ble_eq_true rfl)) dL_law_638 ⟨hq1, hq2⟩) hS (fun z_638 H1 locs hz_638 hq hz1 hk1 hS => ?_)
          obtain ⟨hw, hv_638⟩ := hq
          refine zf_ne (tgt := 646) hx hb dL_law_641 (by decide) (by first | decide | (constructor <;> omega)) (fun c_641 => ?_) (fun c_641 => ?_)
          · exact kk _ _ _ hS hw (lv_sub hl [2, 3, 4, 5, 6, 7, 8, 9] rfl)
          · exfalso; omega
      · refine lv_iload hx hb dL_law_565 (lv_at hl 1 rfl) ?_
        refine zf_eq (tgt := 616) hx hb dL_law_567 (by decide) (by first | decide | (constructor <;> omega)) (fun c_567 => ?_) (fun c_567 => ?_)
        · exfalso; omega
        · rcases hl0 i (by omega) with ⟨m0, hpi⟩ | ⟨m0, p0, hpi, m1, m2, m3⟩
          · refine lv_aload_n hx hb dL_law_570 rfl (lv_at hl 4 rfl) ?_
            refine lv_iload hx hb dL_law_571 (lv_at hl 0 rfl) ?_
            refine l_ald hx hb hE hw 0 (by decide) i rfl (by unfold rowN; simp; omega) dL_law_573 ?_
            refine zi_top (fun v_573 hv_573 => ?_)
            refine zf_eq (tgt := 603) hx hb dL_law_574 (by decide) (by first | decide | (constructor <;> omega)) (fun c_574 => ?_) (fun c_574 => ?_)
            · refine zi_const hx hb dL_law_603 ?_
              refine lv_goto (tgt := 608) hx hb dL_law_604 (by decide) ?_
              refine lv_istore (lv' := [(12, .int (iI (1))), (13, .int (iI ((i : Int)))), (0, .ref b), (1, .ref (ad 0)), (2, .ref (ad 43)), (3, .ref (ad 44)), (4, .ref (ad 45)), (5, .ref (ad 46)), (6, .ref (ad 47)), (7, .int (iI ((k : Int)))), (9, .int (iI (w)))]) hx hb dL_law_608 hl (by decide) rfl (fun ls hl => ?_)
              refine zi_iinc (lv' := [(13, .int (iI ((i : Int) + 1))), (12, .int (iI (1))), (0, .ref b), (1, .ref (ad 0)), (2, .ref (ad 43)), (3, .ref (ad 44)), (4, .ref (ad 45)), (5, .ref (ad 46)), (6, .ref (ad 47)), (7, .int (iI ((k : Int)))), (9, .int (iI (w)))]) hx hb dL_law_610 hl (k := 1) rfl (by decide) rfl (fun ls hl => ?_)
              refine lv_goto (tgt := 558) hx hb dL_law_613 (by decide) ?_
              exact ih (i + 1) _ _ _ (by omega) (by omega) hw hS (lv_sub hl [0, 1, 2, 3, 4, 5, 6, 7, 8, 9, 10] rfl)
            · exfalso; omega
          · have hbp := hys.b9 i p0 (by omega) hpi
            have hc9 := FY_cnt (n := yi 5) hys (by omega) hpi
            refine lv_aload_n hx hb dL_law_570 rfl (lv_at hl 4 rfl) ?_
            refine lv_iload hx hb dL_law_571 (lv_at hl 0 rfl) ?_
            refine l_ald hx hb hE hw 0 (by decide) i rfl (by unfold rowN; simp; omega) dL_law_573 ?_
            refine zi_top (fun v_573 hv_573 => ?_)
            refine zf_eq (tgt := 603) hx hb dL_law_574 (by decide) (by first | decide | (constructor <;> omega)) (fun c_574 => ?_) (fun c_574 => ?_)
            · exfalso; omega
            · refine lv_aload_n hx hb dL_law_577 rfl (lv_at hl 3 rfl) ?_
              refine lv_aload hx hb dL_law_578 (lv_at hl 6 rfl) ?_
              refine lv_aload hx hb dL_law_580 (lv_at hl 8 rfl) ?_
              refine lv_iload hx hb dL_law_582 (lv_at hl 0 rfl) ?_
              refine zcalli (va_runS (As := [.ref (ad 0), .ref (ad 45), .ref (ad 47), .int (iI ((i : Int)))]) (rest := []) ⟨hx, hb, hml, hown, hts⟩ (c_L_isStruck l D cy A ad T yi pr la _ (i) p0 hw hys hla (by omega) hpi) (va_cwS 4 hts gL_law_L_isStruck rfl rfl rfl (by decide +kernel) ⟨(Nat.le_of_ble_eq_true rfl), (Nat.le_of_ble_eq_true rfl)⟩) (zPS hE hS) rfl rfl hl.1 rfl (lv_room (Nat.le_of_ble_eq_true rfl)) dL_law_584 ⟨hq1, hq2⟩) hS (fun z_584 H1 locs hz_584 hq hz1 hk1 hS => ?_)
              obtain ⟨hw, hv_584⟩ := hq
              refine zf_eq (tgt := 607) hx hb dL_law_587 (by decide) (by first | decide | (constructor <;> omega)) (fun c_587 => ?_) (fun c_587 => ?_)
              · exfalso; omega
              · refine lv_aload_n hx hb dL_law_590 rfl (lv_at hl 3 rfl) ?_
                refine lv_iload hx hb dL_law_591 (lv_at hl 0 rfl) ?_
                refine zcalli (va_runV (As := [.int (iI ((i : Int)))]) (rest := []) ⟨hx, hb, hml, hown, hts⟩ (c_Q_panelsOf l D cy A ad T yi pr la _ (i) p0 hw hys (by omega) hpi) (cwV 1 hts gL_law_X1_panelsOf rfl rfl rfl (by decide +kernel) ⟨(Nat.le_of_ble_eq_true rfl), (Nat.le_of_ble_eq_true rfl)⟩) (l_PV hE hS hw) rfl rfl hl.1 rfl (lv_room (Nat.le_of_ble_eq_true rfl)) dL_law_593 ⟨hq1, hq2⟩) hS (fun z_593 H1 locs hz_593 hq hz1 hk1 hS => ?_)
                obtain ⟨hw, hv_593⟩ := hq
                refine lv_aload_n hx hb dL_law_596 rfl (lv_at hl 5 rfl) ?_
                refine lv_iload hx hb dL_law_597 (lv_at hl 0 rfl) ?_
                refine l_ald hx hb hE hw 1 (by decide) i rfl (by unfold rowN; simp; omega) dL_law_599 ?_
                refine zi_top (fun v_599 hv_599 => ?_)
                refine zc_gt (tgt := 607) hx hb dL_law_600 (by decide) (by first | decide | (constructor <;> omega)) (by first | decide | (constructor <;> omega)) (fun c_600 => ?_) (fun c_600 => ?_)
                · exfalso; omega
                · refine zi_const hx hb dL_law_603 ?_
                  refine lv_goto (tgt := 608) hx hb dL_law_604 (by decide) ?_
                  refine lv_istore (lv' := [(12, .int (iI (1))), (13, .int (iI ((i : Int)))), (0, .ref b), (1, .ref (ad 0)), (2, .ref (ad 43)), (3, .ref (ad 44)), (4, .ref (ad 45)), (5, .ref (ad 46)), (6, .ref (ad 47)), (7, .int (iI ((k : Int)))), (9, .int (iI (w)))]) hx hb dL_law_608 hl (by decide) rfl (fun ls hl => ?_)
                  refine zi_iinc (lv' := [(13, .int (iI ((i : Int) + 1))), (12, .int (iI (1))), (0, .ref b), (1, .ref (ad 0)), (2, .ref (ad 43)), (3, .ref (ad 44)), (4, .ref (ad 45)), (5, .ref (ad 46)), (6, .ref (ad 47)), (7, .int (iI ((k : Int)))), (9, .int (iI (w)))]) hx hb dL_law_610 hl (k := 1) rfl (by decide) rfl (fun ls hl => ?_)
                  refine lv_goto (tgt := 558) hx hb dL_law_613 (by decide) ?_
                  exact ih (i + 1) _ _ _ (by omega) (by omega) hw hS (lv_sub hl [0, 1, 2, 3, 4, 5, 6, 7, 8, 9, 10] rfl)
  exact loop_558 11 0 _ _ _ (by omega) (by omega) hw hS (lv_sub hl [0, 1, 2, 3, 4, 5, 6, 7, 8, 9, 10] rfl)

set_option maxHeartbeats 4000000 in
set_option maxRecDepth 100000 in
theorem k_plan {pg : Program} {l : Launch} {en : Env} {s : State} {mt : MethodId} {below : List Frame} {meth : Method} {c : Code} {b : Nat} {D : va_G} {cy : Nat → ClassId} {A : Nat → Prop} (hC : LC pg s mt c b D cy A) {H : Heap} {locs : List Loc} {cells slots : Nat} {Q : State → Prop} {ls : Array Slot} (hS : va_S A s.heap H locs) (hcR : cells + 3 ≤ room_1.cells) (hsR : slots + 21 ≤ room_1.slots) {ad : Nat → Nat} {T : Nat → Int} {yi : Nat → Int} {pr : Nat → Option PS} {la : Nat → Nat → Int} (hw : LW D cy A ad T yi pr la H) (hys : YS T yi pr) (hla : LA yi pr la) {k i : Nat} {v w o : Int} (hzv : zr v) (hzw : zr w) (ho : 0 ≤ o ∧ o < 12) (hi : i < 10) (hl : lv_has ls 16 [(0, .ref b), (1, .ref (ad 0)), (2, .ref (ad 43)), (3, .ref (ad 44)), (4, .ref (ad 45)), (5, .ref (ad 46)), (6, .ref (ad 47)), (7, .int (iI ((k : Int)))), (8, .int (iI (v))), (9, .int (iI (w))), (10, .int (iI (o))), (11, .int (iI ((i : Int))))]) (kkT : ∀ (H1 : Heap) (locs1 : List Loc) (ls1 : Array Slot), va_S A s.heap H1 locs1 → LI D cy A (ad 0) (ad 43) (ad 44) (ad 45) (ad 46) (ad 47) H1 → lv_has ls1 16 [(0, .ref b), (1, .ref (ad 0)), (2, .ref (ad 43)), (3, .ref (ad 44)), (4, .ref (ad 45)), (5, .ref (ad 46)), (6, .ref (ad 47)), (7, .int (iI ((k : Int)))), (9, .int (iI (w)))] → W pg l en room_1 s mt #[Value.ref b] below meth c H1 locs1 (cells + 3) (slots + 21) Q (F0 mt 506 ls1 [])) (kkN : ∀ (H1 : Heap) (locs1 : List Loc) (ls1 : Array Slot), va_S A s.heap H1 locs1 → LW D cy A ad T yi pr la H1 → lv_has ls1 16 [(0, .ref b), (1, .ref (ad 0)), (2, .ref (ad 43)), (3, .ref (ad 44)), (4, .ref (ad 45)), (5, .ref (ad 46)), (6, .ref (ad 47)), (7, .int (iI ((k : Int)))), (8, .int (iI (v))), (9, .int (iI (w))), (10, .int (iI (o))), (11, .int (iI ((i : Int))))] → W pg l en room_1 s mt #[Value.ref b] below meth c H1 locs1 (cells) (slots) Q (F0 mt 249 ls1 []))  :
    W pg l en room_1 s mt #[Value.ref b] below meth c H locs cells slots Q (F0 mt 101 ls []) := by
  obtain ⟨⟨hx, hb, hml, hown, hts⟩, hE, hAf⟩ := id hC
  have hq1 : cells ≤ room_1.cells := Nat.le_trans (Nat.le_add_right _ 3) hcR
  have hq2 : slots ≤ room_1.slots := Nat.le_trans (Nat.le_add_right _ 21) hsR
  obtain ⟨hl0, t0, t1, t2⟩ := id hla
  have hyb := hys.2.1
  unfold yB at hyb
  have hl : lv_has ls 16 [(0, .ref b), (1, .ref (ad 0)), (2, .ref (ad 43)), (3, .ref (ad 44)), (4, .ref (ad 45)), (5, .ref (ad 46)), (6, .ref (ad 47)), (7, .int (iI ((k : Int)))), (8, .int (iI (v))), (9, .int (iI (w))), (10, .int (iI (o))), (11, .int (iI ((i : Int))))] := hl
  refine lv_iload hx hb dL_law_101 (lv_at hl 10 rfl) ?_
  refine zi_const hx hb dL_law_103 ?_
  refine zc_ge (tgt := 249) hx hb dL_law_104 (by decide) (by first | decide | (constructor <;> omega)) (by first | decide | (constructor <;> omega)) (fun c_104 => ?_) (fun c_104 => ?_)
  · exact kkN _ _ _ hS hw (lv_sub hl [0, 1, 2, 3, 4, 5, 6, 7, 8, 9, 10, 11] rfl)
  · refine lv_aload_n hx hb dL_law_107 rfl (lv_at hl 1 rfl) ?_
    refine zcalli (va_runV (As := []) (rest := []) ⟨hx, hb, hml, hown, hts⟩ (c_Q_pours l D cy A ad T yi pr la _ hw hys) (cwV 0 hts gL_law_X1_pours rfl rfl rfl (by decide +kernel) ⟨(Nat.le_of_ble_eq_true rfl), (Nat.le_of_ble_eq_true rfl)⟩) (l_PV hE hS hw) rfl rfl hl.1 rfl (lv_room (Nat.le_of_ble_eq_true rfl)) dL_law_108 ⟨hq1, hq2⟩) hS (fun z_108 H1 locs hz_108 hq hz1 hk1 hS => ?_)
    obtain ⟨hw, hv_108⟩ := hq
    refine zi_bipush hx hb dL_law_111 (by decide) ?_
    refine zc_ge (tgt := 249) hx hb dL_law_113 (by decide) (by first | decide | (constructor <;> omega)) (by first | decide | (constructor <;> omega)) (fun c_113 => ?_) (fun c_113 => ?_)
    · exact kkN _ _ _ hS hw (lv_sub hl [0, 1, 2, 3, 4, 5, 6, 7, 8, 9, 10, 11] rfl)
    · refine lv_iload hx hb dL_law_116 (lv_at hl 8 rfl) ?_
      refine zi_const hx hb dL_law_118 ?_
      refine lv_ishr hx hb dL_law_119 ?_
      refine zi_any (fun w_119 hw_119 => ?_)
      refine zi_const hx hb dL_law_120 ?_
      refine zcalli (va_runS (As := [.int (iI (w_119)), .int (iI (4))]) (rest := []) ⟨hx, hb, hml, hown, hts⟩ (c_L_low l D cy A ad _ (w_119) (4) (by first | assumption | (constructor <;> omega)) (by omega)) (va_cwS 2 hts gL_law_L_low rfl rfl rfl (by decide +kernel) ⟨(Nat.le_of_ble_eq_true rfl), (Nat.le_of_ble_eq_true rfl)⟩) (zPS hE hS) rfl rfl hl.1 rfl (lv_room (Nat.le_of_ble_eq_true rfl)) dL_law_121 ⟨hq1, hq2⟩) hS (fun z_121 H1 locs hz_121 hq hz1 hk1 hS => ?_)
      obtain ⟨hqe, hv_121, hu_121⟩ := hq
      replace hqe := hqe.symm
      subst hqe
      refine zf_ne (tgt := 138) hx hb dL_law_124 (by decide) (by first | decide | (constructor <;> omega)) (fun c_124 => ?_) (fun c_124 => ?_)
      · refine lv_iload hx hb dL_law_138 (lv_at hl 9 rfl) ?_
        refine zi_bipush hx hb dL_law_140 (by decide) ?_
        refine zcalli (va_runS (As := [.int (iI (w)), .int (iI (60))]) (rest := []) ⟨hx, hb, hml, hown, hts⟩ (c_L_low l D cy A ad _ (w) (60) (by first | assumption | (constructor <;> omega)) (by omega)) (va_cwS 2 hts gL_law_L_low rfl rfl rfl (by decide +kernel) ⟨(Nat.le_of_ble_eq_true rfl), (Nat.le_of_ble_eq_true rfl)⟩) (zPS hE hS) rfl rfl hl.1 rfl (lv_room (Nat.le_of_ble_eq_true rfl)) dL_law_142 ⟨hq1, hq2⟩) hS (fun z_142 H1 locs hz_142 hq hz1 hk1 hS => ?_)
        obtain ⟨hqe, hv_142, hu_142⟩ := hq
        replace hqe := hqe.symm
        subst hqe
        refine lv_istore (lv' := [(12, .int (iI (z_142))), (0, .ref b), (1, .ref (ad 0)), (2, .ref (ad 43)), (3, .ref (ad 44)), (4, .ref (ad 45)), (5, .ref (ad 46)), (6, .ref (ad 47)), (7, .int (iI ((k : Int)))), (8, .int (iI (v))), (9, .int (iI (w))), (10, .int (iI (o))), (11, .int (iI ((i : Int))))]) hx hb dL_law_145 hl (by decide) rfl (fun ls hl => ?_)
        refine zi_const hx hb dL_law_147 ?_
        refine lv_iload hx hb dL_law_148 (lv_at hl 10 rfl) ?_
        refine zi_bipush hx hb dL_law_150 (by decide) ?_
        refine lv_ishr hx hb dL_law_152 ?_
        refine zi_any (fun w_152 hw_152 => ?_)
        refine zi_bipush hx hb dL_law_153 (by decide) ?_
        refine zcalli (va_runS (As := [.int (iI (w_152)), .int (iI (12))]) (rest := [.int (iI (1))]) ⟨hx, hb, hml, hown, hts⟩ (c_L_low l D cy A ad _ (w_152) (12) (by first | assumption | (constructor <;> omega)) (by omega)) (va_cwS 2 hts gL_law_L_low rfl rfl rfl (by decide +kernel) ⟨(Nat.le_of_ble_eq_true rfl), (Nat.le_of_ble_eq_true rfl)⟩) (zPS hE hS) rfl rfl hl.1 rfl (lv_room (Nat.le_of_ble_eq_true rfl)) dL_law_155 ⟨hq1, hq2⟩) hS (fun z_155 H1 locs hz_155 hq hz1 hk1 hS => ?_)
        obtain ⟨hqe, hv_155, hu_155⟩ := hq
        replace hqe := hqe.symm
        subst hqe
        refine zi_add hx hb dL_law_158 ?_
        refine zi_top (fun x_159 hx_159 => ?_)
        refine lv_istore (lv' := [(13, .int (iI (x_159))), (12, .int (iI (z_142))), (0, .ref b), (1, .ref (ad 0)), (2, .ref (ad 43)), (3, .ref (ad 44)), (4, .ref (ad 45)), (5, .ref (ad 46)), (6, .ref (ad 47)), (7, .int (iI ((k : Int)))), (8, .int (iI (v))), (9, .int (iI (w))), (10, .int (iI (o))), (11, .int (iI ((i : Int))))]) hx hb dL_law_159 hl (by decide) rfl (fun ls hl => ?_)
        refine zi_const hx hb dL_law_161 ?_
        refine lv_iload hx hb dL_law_162 (lv_at hl 11 rfl) ?_
        refine zi_bipush hx hb dL_law_164 (by decide) ?_
        refine lv_ishr hx hb dL_law_166 ?_
        refine zi_any (fun w_166 hw_166 => ?_)
        refine zi_bipush hx hb dL_law_167 (by decide) ?_
        refine zcalli (va_runS (As := [.int (iI (w_166)), .int (iI (100))]) (rest := [.int (iI (1))]) ⟨hx, hb, hml, hown, hts⟩ (c_L_low l D cy A ad _ (w_166) (100) (by first | assumption | (constructor <;> omega)) (by omega)) (va_cwS 2 hts gL_law_L_low rfl rfl rfl (by decide +kernel) ⟨(Nat.le_of_ble_eq_true rfl), (Nat.le_of_ble_eq_true rfl)⟩) (zPS hE hS) rfl rfl hl.1 rfl (lv_room (Nat.le_of_ble_eq_true rfl)) dL_law_169 ⟨hq1, hq2⟩) hS (fun z_169 H1 locs hz_169 hq hz1 hk1 hS => ?_)
        obtain ⟨hqe, hv_169, hu_169⟩ := hq
        replace hqe := hqe.symm
        subst hqe
        refine zi_add hx hb dL_law_172 ?_
        refine zi_top (fun x_173 hx_173 => ?_)
        refine lv_istore (lv' := [(14, .int (iI (x_173))), (13, .int (iI (x_159))), (12, .int (iI (z_142))), (0, .ref b), (1, .ref (ad 0)), (2, .ref (ad 43)), (3, .ref (ad 44)), (4, .ref (ad 45)), (5, .ref (ad 46)), (6, .ref (ad 47)), (7, .int (iI ((k : Int)))), (8, .int (iI (v))), (9, .int (iI (w))), (10, .int (iI (o))), (11, .int (iI ((i : Int))))]) hx hb dL_law_173 hl (by decide) rfl (fun ls hl => ?_)
        refine lv_aload_n hx hb dL_law_175 rfl (lv_at hl 4 rfl) ?_
        refine lv_iload hx hb dL_law_176 (lv_at hl 2 rfl) ?_
        refine zi_const hx hb dL_law_178 ?_
        refine lv_iload hx hb dL_law_179 (lv_at hl 12 rfl) ?_
        refine zi_bipush hx hb dL_law_181 (by decide) ?_
        refine lv_ishr hx hb dL_law_183 ?_
        refine zi_any (fun w_183 hw_183 => ?_)
        refine zi_bipush hx hb dL_law_184 (by decide) ?_
        refine zcalli (va_runS (As := [.int (iI (w_183)), .int (iI (90))]) (rest := [.int (iI (1)), .int (iI (z_142)), .ref (ad 0)]) ⟨hx, hb, hml, hown, hts⟩ (c_L_low l D cy A ad _ (w_183) (90) (by first | assumption | (constructor <;> omega)) (by omega)) (va_cwS 2 hts gL_law_L_low rfl rfl rfl (by decide +kernel) ⟨(Nat.le_of_ble_eq_true rfl), (Nat.le_of_ble_eq_true rfl)⟩) (zPS hE hS) rfl rfl hl.1 rfl (lv_room (Nat.le_of_ble_eq_true rfl)) dL_law_186 ⟨hq1, hq2⟩) hS (fun z_186 H1 locs hz_186 hq hz1 hk1 hS => ?_)
        obtain ⟨hqe, hv_186, hu_186⟩ := hq
        replace hqe := hqe.symm
        subst hqe
        refine zi_add hx hb dL_law_189 ?_
        refine lv_iload hx hb dL_law_190 (lv_at hl 1 rfl) ?_
        refine lv_iload hx hb dL_law_192 (lv_at hl 0 rfl) ?_
        have hpl : plOK (z_142) (1 + z_186) (x_159) (x_173) := by unfold plOK; omega
        have hfree := cntY_free (pr := pr) (n := 10) (by omega)
        refine zcalli (va_runV (As := [.int (iI (z_142)), .int (iI (1 + z_186)), .int (iI (x_159)), .int (iI (x_173))]) (rest := []) ⟨hx, hb, hml, hown, hts⟩ (c_Q_plan l D cy A ad T yi pr la _ (z_142) (1 + z_186) (x_159) (x_173) hw hys hpl hfree (fun q hq => hAf q (Nat.le_trans hS.1 hq))) (cwV 4 hts gL_law_X1_plan rfl rfl rfl (by decide +kernel) ⟨(Nat.le_of_ble_eq_true rfl), (Nat.le_of_ble_eq_true rfl)⟩) (l_PV hE hS hw) rfl rfl hl.1 rfl (lv_room (Nat.le_of_ble_eq_true rfl)) dL_law_194 ⟨hcR, hsR⟩) hS (fun z_194 H1 locs hz_194 hq hz1 hk1 hS => ?_)
        obtain ⟨ad, n, pq, q, hzn, hn, hpn, ha0, har, hw, hys, hpq, e1, e2, e3, hkp⟩ := hq
        have h43 := har 0 (by decide)
        have h44 := har 1 (by decide)
        have h45 := har 2 (by decide)
        have h46 := har 3 (by decide)
        have h47 := har 4 (by decide)
        simp only [Nat.reduceAdd] at h43 h44 h45 h46 h47
        subst hzn
        rw [← ha0, ← h43, ← h44, ← h45, ← h46, ← h47] at hl
        have h0n : la 0 n = 0 := by
          rcases hla.1 n hn with ⟨c, -⟩ | ⟨-, p, c, -⟩
          · exact c
          · rw [hpn] at c; cases c
        refine lv_istore (lv' := [(15, .int (iI ((n : Int)))), (14, .int (iI (x_173))), (13, .int (iI (x_159))), (12, .int (iI (z_142))), (0, .ref b), (1, .ref (ad 0)), (2, .ref (ad 43)), (3, .ref (ad 44)), (4, .ref (ad 45)), (5, .ref (ad 46)), (6, .ref (ad 47)), (7, .int (iI ((k : Int)))), (8, .int (iI (v))), (9, .int (iI (w))), (10, .int (iI (o))), (11, .int (iI ((i : Int))))]) hx hb dL_law_197 hl (by decide) rfl (fun ls hl => ?_)
        refine lv_iload hx hb dL_law_199 (lv_at hl 0 rfl) ?_
        refine zf_lt (tgt := 219) hx hb dL_law_201 (by decide) (by first | decide | (constructor <;> omega)) (fun c_201 => ?_) (fun c_201 => ?_)
        · exfalso; omega
        · refine lv_iload hx hb dL_law_204 (lv_at hl 0 rfl) ?_
          refine zi_bipush hx hb dL_law_206 (by decide) ?_
          refine zc_gt (tgt := 219) hx hb dL_law_208 (by decide) (by first | decide | (constructor <;> omega)) (by first | decide | (constructor <;> omega)) (fun c_208 => ?_) (fun c_208 => ?_)
          · exfalso; omega
          · refine lv_aload_n hx hb dL_law_211 rfl (lv_at hl 6 rfl) ?_
            refine lv_iload hx hb dL_law_212 (lv_at hl 0 rfl) ?_
            refine l_ald hx hb hE hw 0 (by decide) n rfl (by unfold rowN; simp; omega) dL_law_214 ?_
            refine zi_top (fun v_214 hv_214 => ?_)
            refine zi_const hx hb dL_law_215 ?_
            refine zc_ne (tgt := 221) hx hb dL_law_216 (by decide) (by first | decide | (constructor <;> omega)) (by first | decide | (constructor <;> omega)) (fun c_216 => ?_) (fun c_216 => ?_)
            · refine lv_aload_n hx hb dL_law_221 rfl (lv_at hl 6 rfl) ?_
              refine lv_iload hx hb dL_law_222 (lv_at hl 0 rfl) ?_
              refine zi_const hx hb dL_law_224 ?_
              refine l_ast hx hb hE hS hw 0 (by decide) n rfl (by unfold rowN; simp; omega) dL_law_225 (fun H locs hw hS => ?_)
              obtain ⟨la_1, hla_1⟩ : ∃ z : Nat → Nat → Int, z = va_up la 0 (va_up (la 0) (n) (1)) := ⟨_, rfl⟩
              rw [← hla_1] at hw
              refine lv_aload_n hx hb dL_law_226 rfl (lv_at hl 7 rfl) ?_
              refine lv_iload hx hb dL_law_227 (lv_at hl 0 rfl) ?_
              refine lv_iload hx hb dL_law_229 (lv_at hl 2 rfl) ?_
              refine l_ast hx hb hE hS hw 1 (by decide) n rfl (by unfold rowN; simp; omega) dL_law_231 (fun H locs hw hS => ?_)
              obtain ⟨la_2, hla_2⟩ : ∃ z : Nat → Nat → Int, z = va_up la_1 1 (va_up (la_1 1) (n) (x_159)) := ⟨_, rfl⟩
              rw [← hla_2] at hw
              refine lv_aload hx hb dL_law_232 (lv_at hl 8 rfl) ?_
              refine lv_iload hx hb dL_law_234 (lv_at hl 0 rfl) ?_
              refine lv_iload hx hb dL_law_236 (lv_at hl 1 rfl) ?_
              refine l_ast hx hb hE hS hw 2 (by decide) n rfl (by unfold rowN; simp; omega) dL_law_238 (fun H locs hw hS => ?_)
              obtain ⟨la_3, hla_3⟩ : ∃ z : Nat → Nat → Int, z = va_up la_2 2 (va_up (la_2 2) (n) (x_173)) := ⟨_, rfl⟩
              rw [← hla_3] at hw
              refine lv_aload hx hb dL_law_239 (lv_at hl 9 rfl) ?_
              refine lv_iload hx hb dL_law_241 (lv_at hl 0 rfl) ?_
              refine lv_iload hx hb dL_law_243 (lv_at hl 3 rfl) ?_
              refine l_ast hx hb hE hS hw 3 (by decide) n rfl (by unfold rowN; simp; omega) dL_law_245 (fun H locs hw hS => ?_)
              obtain ⟨la_4, hla_4⟩ : ∃ z : Nat → Nat → Int, z = va_up la_3 3 (va_up (la_3 3) (n) (z_142)) := ⟨_, rfl⟩
              rw [← hla_4] at hw
              refine lv_goto (tgt := 506) hx hb dL_law_246 (by decide) ?_
              have hla9 := LA.plan hla hkp hpq e1 e2 e3 hla_1 hla_2 hla_3 hla_4
              rw [ha0, h43, h44, h45, h46, h47] at hl
              exact kkT _ _ _ hS ⟨ad, T, yi, pq, la_4, ha0, h43, h44, h45, h46, h47, hw, hys, hla9⟩ (lv_sub hl [4, 5, 6, 7, 8, 9, 10, 11, 13] rfl)
            · exfalso; omega
      · refine lv_iload hx hb dL_law_127 (lv_at hl 9 rfl) ?_
        refine zi_sipush hx hb dL_law_129 (by decide) ?_
        refine zcalli (va_runS (As := [.int (iI (w)), .int (iI (901))]) (rest := []) ⟨hx, hb, hml, hown, hts⟩ (c_L_low l D cy A ad _ (w) (901) (by first | assumption | (constructor <;> omega)) (by omega)) (va_cwS 2 hts gL_law_L_low rfl rfl rfl (by decide +kernel) ⟨(Nat.le_of_ble_eq_true rfl), (Nat.le_of_ble_eq_true rfl)⟩) (zPS hE hS) rfl rfl hl.1 rfl (lv_room (Nat.le_of_ble_eq_true rfl)) dL_law_132 ⟨hq1, hq2⟩) hS (fun z_132 H1 locs hz_132 hq hz1 hk1 hS => ?_)
        obtain ⟨hqe, hv_132, hu_132⟩ := hq
        replace hqe := hqe.symm
        subst hqe
        refine lv_goto (tgt := 145) hx hb dL_law_135 (by decide) ?_
        refine lv_istore (lv' := [(12, .int (iI (z_132))), (0, .ref b), (1, .ref (ad 0)), (2, .ref (ad 43)), (3, .ref (ad 44)), (4, .ref (ad 45)), (5, .ref (ad 46)), (6, .ref (ad 47)), (7, .int (iI ((k : Int)))), (8, .int (iI (v))), (9, .int (iI (w))), (10, .int (iI (o))), (11, .int (iI ((i : Int))))]) hx hb dL_law_145 hl (by decide) rfl (fun ls hl => ?_)
        refine zi_const hx hb dL_law_147 ?_
        refine lv_iload hx hb dL_law_148 (lv_at hl 10 rfl) ?_
        refine zi_bipush hx hb dL_law_150 (by decide) ?_
        refine lv_ishr hx hb dL_law_152 ?_
        refine zi_any (fun w_152 hw_152 => ?_)
        refine zi_bipush hx hb dL_law_153 (by decide) ?_
        refine zcalli (va_runS (As := [.int (iI (w_152)), .int (iI (12))]) (rest := [.int (iI (1))]) ⟨hx, hb, hml, hown, hts⟩ (c_L_low l D cy A ad _ (w_152) (12) (by first | assumption | (constructor <;> omega)) (by omega)) (va_cwS 2 hts gL_law_L_low rfl rfl rfl (by decide +kernel) ⟨(Nat.le_of_ble_eq_true rfl), (Nat.le_of_ble_eq_true rfl)⟩) (zPS hE hS) rfl rfl hl.1 rfl (lv_room (Nat.le_of_ble_eq_true rfl)) dL_law_155 ⟨hq1, hq2⟩) hS (fun z_155 H1 locs hz_155 hq hz1 hk1 hS => ?_)
        obtain ⟨hqe, hv_155, hu_155⟩ := hq
        replace hqe := hqe.symm
        subst hqe
        refine zi_add hx hb dL_law_158 ?_
        refine zi_top (fun x_159 hx_159 => ?_)
        refine lv_istore (lv' := [(13, .int (iI (x_159))), (12, .int (iI (z_132))), (0, .ref b), (1, .ref (ad 0)), (2, .ref (ad 43)), (3, .ref (ad 44)), (4, .ref (ad 45)), (5, .ref (ad 46)), (6, .ref (ad 47)), (7, .int (iI ((k : Int)))), (8, .int (iI (v))), (9, .int (iI (w))), (10, .int (iI (o))), (11, .int (iI ((i : Int))))]) hx hb dL_law_159 hl (by decide) rfl (fun ls hl => ?_)
        refine zi_const hx hb dL_law_161 ?_
        refine lv_iload hx hb dL_law_162 (lv_at hl 11 rfl) ?_
        refine zi_bipush hx hb dL_law_164 (by decide) ?_
        refine lv_ishr hx hb dL_law_166 ?_
        refine zi_any (fun w_166 hw_166 => ?_)
        refine zi_bipush hx hb dL_law_167 (by decide) ?_
        refine zcalli (va_runS (As := [.int (iI (w_166)), .int (iI (100))]) (rest := [.int (iI (1))]) ⟨hx, hb, hml, hown, hts⟩ (c_L_low l D cy A ad _ (w_166) (100) (by first | assumption | (constructor <;> omega)) (by omega)) (va_cwS 2 hts gL_law_L_low rfl rfl rfl (by decide +kernel) ⟨(Nat.le_of_ble_eq_true rfl), (Nat.le_of_ble_eq_true rfl)⟩) (zPS hE hS) rfl rfl hl.1 rfl (lv_room (Nat.le_of_ble_eq_true rfl)) dL_law_169 ⟨hq1, hq2⟩) hS (fun z_169 H1 locs hz_169 hq hz1 hk1 hS => ?_)
        obtain ⟨hqe, hv_169, hu_169⟩ := hq
        replace hqe := hqe.symm
        subst hqe
        refine zi_add hx hb dL_law_172 ?_
        refine zi_top (fun x_173 hx_173 => ?_)
        refine lv_istore (lv' := [(14, .int (iI (x_173))), (13, .int (iI (x_159))), (12, .int (iI (z_132))), (0, .ref b), (1, .ref (ad 0)), (2, .ref (ad 43)), (3, .ref (ad 44)), (4, .ref (ad 45)), (5, .ref (ad 46)), (6, .ref (ad 47)), (7, .int (iI ((k : Int)))), (8, .int (iI (v))), (9, .int (iI (w))), (10, .int (iI (o))), (11, .int (iI ((i : Int))))]) hx hb dL_law_173 hl (by decide) rfl (fun ls hl => ?_)
        refine lv_aload_n hx hb dL_law_175 rfl (lv_at hl 4 rfl) ?_
        refine lv_iload hx hb dL_law_176 (lv_at hl 2 rfl) ?_
        refine zi_const hx hb dL_law_178 ?_
        refine lv_iload hx hb dL_law_179 (lv_at hl 12 rfl) ?_
        refine zi_bipush hx hb dL_law_181 (by decide) ?_
        refine lv_ishr hx hb dL_law_183 ?_
        refine zi_any (fun w_183 hw_183 => ?_)
        refine zi_bipush hx hb dL_law_184 (by decide) ?_
        refine zcalli (va_runS (As := [.int (iI (w_183)), .int (iI (90))]) (rest := [.int (iI (1)), .int (iI (z_132)), .ref (ad 0)]) ⟨hx, hb, hml, hown, hts⟩ (c_L_low l D cy A ad _ (w_183) (90) (by first | assumption | (constructor <;> omega)) (by omega)) (va_cwS 2 hts gL_law_L_low rfl rfl rfl (by decide +kernel) ⟨(Nat.le_of_ble_eq_true rfl), (Nat.le_of_ble_eq_true rfl)⟩) (zPS hE hS) rfl rfl hl.1 rfl (lv_room (Nat.le_of_ble_eq_true rfl)) dL_law_186 ⟨hq1, hq2⟩) hS (fun z_186 H1 locs hz_186 hq hz1 hk1 hS => ?_)
        obtain ⟨hqe, hv_186, hu_186⟩ := hq
        replace hqe := hqe.symm
        subst hqe
        refine zi_add hx hb dL_law_189 ?_
        refine lv_iload hx hb dL_law_190 (lv_at hl 1 rfl) ?_
        refine lv_iload hx hb dL_law_192 (lv_at hl 0 rfl) ?_
        have hpl : plOK (z_132) (1 + z_186) (x_159) (x_173) := by unfold plOK; omega
        have hfree := cntY_free (pr := pr) (n := 10) (by omega)
        refine zcalli (va_runV (As := [.int (iI (z_132)), .int (iI (1 + z_186)), .int (iI (x_159)), .int (iI (x_173))]) (rest := []) ⟨hx, hb, hml, hown, hts⟩ (c_Q_plan l D cy A ad T yi pr la _ (z_132) (1 + z_186) (x_159) (x_173) hw hys hpl hfree (fun q hq => hAf q (Nat.le_trans hS.1 hq))) (cwV 4 hts gL_law_X1_plan rfl rfl rfl (by decide +kernel) ⟨(Nat.le_of_ble_eq_true rfl), (Nat.le_of_ble_eq_true rfl)⟩) (l_PV hE hS hw) rfl rfl hl.1 rfl (lv_room (Nat.le_of_ble_eq_true rfl)) dL_law_194 ⟨hcR, hsR⟩) hS (fun z_194 H1 locs hz_194 hq hz1 hk1 hS => ?_)
        obtain ⟨ad, n, pq, q, hzn, hn, hpn, ha0, har, hw, hys, hpq, e1, e2, e3, hkp⟩ := hq
        have h43 := har 0 (by decide)
        have h44 := har 1 (by decide)
        have h45 := har 2 (by decide)
        have h46 := har 3 (by decide)
        have h47 := har 4 (by decide)
        simp only [Nat.reduceAdd] at h43 h44 h45 h46 h47
        subst hzn
        rw [← ha0, ← h43, ← h44, ← h45, ← h46, ← h47] at hl
        have h0n : la 0 n = 0 := by
          rcases hla.1 n hn with ⟨c, -⟩ | ⟨-, p, c, -⟩
          · exact c
          · rw [hpn] at c; cases c
        refine lv_istore (lv' := [(15, .int (iI ((n : Int)))), (14, .int (iI (x_173))), (13, .int (iI (x_159))), (12, .int (iI (z_132))), (0, .ref b), (1, .ref (ad 0)), (2, .ref (ad 43)), (3, .ref (ad 44)), (4, .ref (ad 45)), (5, .ref (ad 46)), (6, .ref (ad 47)), (7, .int (iI ((k : Int)))), (8, .int (iI (v))), (9, .int (iI (w))), (10, .int (iI (o))), (11, .int (iI ((i : Int))))]) hx hb dL_law_197 hl (by decide) rfl (fun ls hl => ?_)
        refine lv_iload hx hb dL_law_199 (lv_at hl 0 rfl) ?_
        refine zf_lt (tgt := 219) hx hb dL_law_201 (by decide) (by first | decide | (constructor <;> omega)) (fun c_201 => ?_) (fun c_201 => ?_)
        · exfalso; omega
        · refine lv_iload hx hb dL_law_204 (lv_at hl 0 rfl) ?_
          refine zi_bipush hx hb dL_law_206 (by decide) ?_
          refine zc_gt (tgt := 219) hx hb dL_law_208 (by decide) (by first | decide | (constructor <;> omega)) (by first | decide | (constructor <;> omega)) (fun c_208 => ?_) (fun c_208 => ?_)
          · exfalso; omega
          · refine lv_aload_n hx hb dL_law_211 rfl (lv_at hl 6 rfl) ?_
            refine lv_iload hx hb dL_law_212 (lv_at hl 0 rfl) ?_
            refine l_ald hx hb hE hw 0 (by decide) n rfl (by unfold rowN; simp; omega) dL_law_214 ?_
            refine zi_top (fun v_214 hv_214 => ?_)
            refine zi_const hx hb dL_law_215 ?_
            refine zc_ne (tgt := 221) hx hb dL_law_216 (by decide) (by first | decide | (constructor <;> omega)) (by first | decide | (constructor <;> omega)) (fun c_216 => ?_) (fun c_216 => ?_)
            · refine lv_aload_n hx hb dL_law_221 rfl (lv_at hl 6 rfl) ?_
              refine lv_iload hx hb dL_law_222 (lv_at hl 0 rfl) ?_
              refine zi_const hx hb dL_law_224 ?_
              refine l_ast hx hb hE hS hw 0 (by decide) n rfl (by unfold rowN; simp; omega) dL_law_225 (fun H locs hw hS => ?_)
              obtain ⟨la_5, hla_5⟩ : ∃ z : Nat → Nat → Int, z = va_up la 0 (va_up (la 0) (n) (1)) := ⟨_, rfl⟩
              rw [← hla_5] at hw
              refine lv_aload_n hx hb dL_law_226 rfl (lv_at hl 7 rfl) ?_
              refine lv_iload hx hb dL_law_227 (lv_at hl 0 rfl) ?_
              refine lv_iload hx hb dL_law_229 (lv_at hl 2 rfl) ?_
              refine l_ast hx hb hE hS hw 1 (by decide) n rfl (by unfold rowN; simp; omega) dL_law_231 (fun H locs hw hS => ?_)
              obtain ⟨la_6, hla_6⟩ : ∃ z : Nat → Nat → Int, z = va_up la_5 1 (va_up (la_5 1) (n) (x_159)) := ⟨_, rfl⟩
              rw [← hla_6] at hw
              refine lv_aload hx hb dL_law_232 (lv_at hl 8 rfl) ?_
              refine lv_iload hx hb dL_law_234 (lv_at hl 0 rfl) ?_
              refine lv_iload hx hb dL_law_236 (lv_at hl 1 rfl) ?_
              refine l_ast hx hb hE hS hw 2 (by decide) n rfl (by unfold rowN; simp; omega) dL_law_238 (fun H locs hw hS => ?_)
              obtain ⟨la_7, hla_7⟩ : ∃ z : Nat → Nat → Int, z = va_up la_6 2 (va_up (la_6 2) (n) (x_173)) := ⟨_, rfl⟩
              rw [← hla_7] at hw
              refine lv_aload hx hb dL_law_239 (lv_at hl 9 rfl) ?_
              refine lv_iload hx hb dL_law_241 (lv_at hl 0 rfl) ?_
              refine lv_iload hx hb dL_law_243 (lv_at hl 3 rfl) ?_
              refine l_ast hx hb hE hS hw 3 (by decide) n rfl (by unfold rowN; simp; omega) dL_law_245 (fun H locs hw hS => ?_)
              obtain ⟨la_8, hla_8⟩ : ∃ z : Nat → Nat → Int, z = va_up la_7 3 (va_up (la_7 3) (n) (z_132)) := ⟨_, rfl⟩
              rw [← hla_8] at hw
              refine lv_goto (tgt := 506) hx hb dL_law_246 (by decide) ?_
              have hla9 := LA.plan hla hkp hpq e1 e2 e3 hla_5 hla_6 hla_7 hla_8
              rw [ha0, h43, h44, h45, h46, h47] at hl
              exact kkT _ _ _ hS ⟨ad, T, yi, pq, la_8, ha0, h43, h44, h45, h46, h47, hw, hys, hla9⟩ (lv_sub hl [4, 5, 6, 7, 8, 9, 10, 11, 13] rfl)
            · exfalso; omega

set_option maxHeartbeats 4000000 in
set_option maxRecDepth 100000 in
theorem k_cancel {pg : Program} {l : Launch} {en : Env} {s : State} {mt : MethodId} {below : List Frame} {meth : Method} {c : Code} {b : Nat} {D : va_G} {cy : Nat → ClassId} {A : Nat → Prop} (hC : LC pg s mt c b D cy A) {H : Heap} {locs : List Loc} {cells slots : Nat} {Q : State → Prop} {ls : Array Slot} (hS : va_S A s.heap H locs) (hcR : cells + 3 ≤ room_1.cells) (hsR : slots + 21 ≤ room_1.slots) {ad : Nat → Nat} {T : Nat → Int} {yi : Nat → Int} {pr : Nat → Option PS} {la : Nat → Nat → Int} (hw : LW D cy A ad T yi pr la H) (hys : YS T yi pr) (hla : LA yi pr la) {k i : Nat} {v w o : Int} (hzv : zr v) (hzw : zr w) (ho : 0 ≤ o ∧ o < 12) (hi : i < 10) (hl : lv_has ls 16 [(0, .ref b), (1, .ref (ad 0)), (2, .ref (ad 43)), (3, .ref (ad 44)), (4, .ref (ad 45)), (5, .ref (ad 46)), (6, .ref (ad 47)), (7, .int (iI ((k : Int)))), (8, .int (iI (v))), (9, .int (iI (w))), (10, .int (iI (o))), (11, .int (iI ((i : Int))))]) (kkT : ∀ (H1 : Heap) (locs1 : List Loc) (ls1 : Array Slot), va_S A s.heap H1 locs1 → LI D cy A (ad 0) (ad 43) (ad 44) (ad 45) (ad 46) (ad 47) H1 → lv_has ls1 16 [(0, .ref b), (1, .ref (ad 0)), (2, .ref (ad 43)), (3, .ref (ad 44)), (4, .ref (ad 45)), (5, .ref (ad 46)), (6, .ref (ad 47)), (7, .int (iI ((k : Int)))), (9, .int (iI (w)))] → W pg l en room_1 s mt #[Value.ref b] below meth c H1 locs1 (cells + 3) (slots + 21) Q (F0 mt 506 ls1 [])) (kkN : ∀ (H1 : Heap) (locs1 : List Loc) (ls1 : Array Slot), va_S A s.heap H1 locs1 → LW D cy A ad T yi pr la H1 → lv_has ls1 16 [(0, .ref b), (1, .ref (ad 0)), (2, .ref (ad 43)), (3, .ref (ad 44)), (4, .ref (ad 45)), (5, .ref (ad 46)), (6, .ref (ad 47)), (7, .int (iI ((k : Int)))), (8, .int (iI (v))), (9, .int (iI (w))), (10, .int (iI (o))), (11, .int (iI ((i : Int))))] → W pg l en room_1 s mt #[Value.ref b] below meth c H1 locs1 (cells) (slots) Q (F0 mt 283 ls1 []))  :
    W pg l en room_1 s mt #[Value.ref b] below meth c H locs cells slots Q (F0 mt 249 ls []) := by
  obtain ⟨⟨hx, hb, hml, hown, hts⟩, hE, hAf⟩ := id hC
  have hq1 : cells ≤ room_1.cells := Nat.le_trans (Nat.le_add_right _ 3) hcR
  have hq2 : slots ≤ room_1.slots := Nat.le_trans (Nat.le_add_right _ 21) hsR
  obtain ⟨hl0, t0, t1, t2⟩ := id hla
  have hyb := hys.2.1
  unfold yB at hyb
  have hl : lv_has ls 16 [(0, .ref b), (1, .ref (ad 0)), (2, .ref (ad 43)), (3, .ref (ad 44)), (4, .ref (ad 45)), (5, .ref (ad 46)), (6, .ref (ad 47)), (7, .int (iI ((k : Int)))), (8, .int (iI (v))), (9, .int (iI (w))), (10, .int (iI (o))), (11, .int (iI ((i : Int))))] := hl
  refine lv_iload hx hb dL_law_249 (lv_at hl 10 rfl) ?_
  refine zi_const hx hb dL_law_251 ?_
  refine zc_ne (tgt := 283) hx hb dL_law_252 (by decide) (by first | decide | (constructor <;> omega)) (by first | decide | (constructor <;> omega)) (fun c_252 => ?_) (fun c_252 => ?_)
  · exact kkN _ _ _ hS hw (lv_sub hl [0, 1, 2, 3, 4, 5, 6, 7, 8, 9, 10, 11] rfl)
  · refine lv_aload_n hx hb dL_law_255 rfl (lv_at hl 2 rfl) ?_
    refine lv_iload hx hb dL_law_256 (lv_at hl 11 rfl) ?_
    refine l_ald hx hb hE hw 0 (by decide) i rfl (by unfold rowN; simp; omega) dL_law_258 ?_
    refine zi_top (fun v_258 hv_258 => ?_)
    have h0b : la 0 i = 0 ∨ la 0 i = 1 := by rcases hl0 i hi with ⟨c, -⟩ | ⟨c, -⟩; exact Or.inl c; exact Or.inr c
    refine zi_const hx hb dL_law_259 ?_
    refine zc_ne (tgt := 283) hx hb dL_law_260 (by decide) (by first | decide | (constructor <;> omega)) (by first | decide | (constructor <;> omega)) (fun c_260 => ?_) (fun c_260 => ?_)
    · exact kkN _ _ _ hS hw (lv_sub hl [0, 1, 2, 3, 4, 5, 6, 7, 8, 9, 10, 11] rfl)
    · obtain ⟨p0, hp0, m1, m2, m3⟩ : ∃ p, pr i = some p ∧ p.1 1 = la 1 i ∧ p.1 2 = la 2 i ∧ p.1 3 = la 3 i := by rcases hl0 i hi with ⟨c, -⟩ | ⟨-, h⟩; (exfalso; omega); exact h
      refine lv_aload_n hx hb dL_law_263 rfl (lv_at hl 2 rfl) ?_
      refine lv_iload hx hb dL_law_264 (lv_at hl 11 rfl) ?_
      refine zi_const hx hb dL_law_266 ?_
      refine l_ast hx hb hE hS hw 0 (by decide) i rfl (by unfold rowN; simp; omega) dL_law_267 (fun H locs hw hS => ?_)
      obtain ⟨la_1, hla_1⟩ : ∃ z : Nat → Nat → Int, z = va_up la 0 (va_up (la 0) (i) (0)) := ⟨_, rfl⟩
      rw [← hla_1] at hw
      refine lv_aload_n hx hb dL_law_268 rfl (lv_at hl 1 rfl) ?_
      refine lv_iload hx hb dL_law_269 (lv_at hl 11 rfl) ?_
      refine zcalli (va_runV (As := [.int (iI ((i : Int)))]) (rest := []) ⟨hx, hb, hml, hown, hts⟩ (c_Q_cancel l D cy A ad T yi pr la_1 _ (i) p0 hw hys (by omega) hp0) (cwV 1 hts gL_law_X1_cancel rfl rfl rfl (by decide +kernel) ⟨(Nat.le_of_ble_eq_true rfl), (Nat.le_of_ble_eq_true rfl)⟩) (l_PV hE hS hw) rfl rfl hl.1 rfl (lv_room (Nat.le_of_ble_eq_true rfl)) dL_law_271 ⟨hq1, hq2⟩) hS (fun z_271 H1 locs hz_271 hq hz1 hk1 hS => ?_)
      obtain ⟨pq, hw, hys, hpq, hv_271, hkp⟩ := hq
      refine lv_aload_n hx hb dL_law_274 rfl (lv_at hl 3 rfl) ?_
      refine lv_iload hx hb dL_law_275 (lv_at hl 11 rfl) ?_
      refine l_ald hx hb hE hw 1 (by decide) i rfl (by unfold rowN; simp; omega) dL_law_277 ?_
      refine zi_top (fun v_277 hv_277 => ?_)
      have e9 : v_277 = la 1 i := by rw [hv_277, hla_1]; exact row_n (by omega)
      refine zc_eq (tgt := 506) hx hb dL_law_278 (by decide) (by first | decide | (constructor <;> omega)) (by first | decide | (constructor <;> omega)) (fun c_278 => ?_) (fun c_278 => ?_)
      · refine W.widen (k := cells + 3) (n := slots + 21) (by omega) (by omega) (kkT _ _ _ hS ⟨ad, _, _, _, _, rfl, rfl, rfl, rfl, rfl, rfl, hw, hys, ?_⟩ (lv_sub hl [0, 1, 2, 3, 4, 5, 6, 7, 9] rfl))
        exact LA.cancel hla hkp hpq hla_1
      · exfalso; omega

set_option maxHeartbeats 4000000 in
set_option maxRecDepth 100000 in
theorem k_move {pg : Program} {l : Launch} {en : Env} {s : State} {mt : MethodId} {below : List Frame} {meth : Method} {c : Code} {b : Nat} {D : va_G} {cy : Nat → ClassId} {A : Nat → Prop} (hC : LC pg s mt c b D cy A) {H : Heap} {locs : List Loc} {cells slots : Nat} {Q : State → Prop} {ls : Array Slot} (hS : va_S A s.heap H locs) (hcR : cells + 3 ≤ room_1.cells) (hsR : slots + 21 ≤ room_1.slots) {ad : Nat → Nat} {T : Nat → Int} {yi : Nat → Int} {pr : Nat → Option PS} {la : Nat → Nat → Int} (hw : LW D cy A ad T yi pr la H) (hys : YS T yi pr) (hla : LA yi pr la) {k i : Nat} {v w o : Int} (hzv : zr v) (hzw : zr w) (ho : 0 ≤ o ∧ o < 12) (hi : i < 10) (hl : lv_has ls 16 [(0, .ref b), (1, .ref (ad 0)), (2, .ref (ad 43)), (3, .ref (ad 44)), (4, .ref (ad 45)), (5, .ref (ad 46)), (6, .ref (ad 47)), (7, .int (iI ((k : Int)))), (8, .int (iI (v))), (9, .int (iI (w))), (10, .int (iI (o))), (11, .int (iI ((i : Int))))]) (kkT : ∀ (H1 : Heap) (locs1 : List Loc) (ls1 : Array Slot), va_S A s.heap H1 locs1 → LI D cy A (ad 0) (ad 43) (ad 44) (ad 45) (ad 46) (ad 47) H1 → lv_has ls1 16 [(0, .ref b), (1, .ref (ad 0)), (2, .ref (ad 43)), (3, .ref (ad 44)), (4, .ref (ad 45)), (5, .ref (ad 46)), (6, .ref (ad 47)), (7, .int (iI ((k : Int)))), (9, .int (iI (w)))] → W pg l en room_1 s mt #[Value.ref b] below meth c H1 locs1 (cells + 3) (slots + 21) Q (F0 mt 506 ls1 [])) (kkN : ∀ (H1 : Heap) (locs1 : List Loc) (ls1 : Array Slot), va_S A s.heap H1 locs1 → LW D cy A ad T yi pr la H1 → lv_has ls1 16 [(0, .ref b), (1, .ref (ad 0)), (2, .ref (ad 43)), (3, .ref (ad 44)), (4, .ref (ad 45)), (5, .ref (ad 46)), (6, .ref (ad 47)), (7, .int (iI ((k : Int)))), (8, .int (iI (v))), (9, .int (iI (w))), (10, .int (iI (o))), (11, .int (iI ((i : Int))))] → W pg l en room_1 s mt #[Value.ref b] below meth c H1 locs1 (cells) (slots) Q (F0 mt 336 ls1 []))  :
    W pg l en room_1 s mt #[Value.ref b] below meth c H locs cells slots Q (F0 mt 283 ls []) := by
  obtain ⟨⟨hx, hb, hml, hown, hts⟩, hE, hAf⟩ := id hC
  have hq1 : cells ≤ room_1.cells := Nat.le_trans (Nat.le_add_right _ 3) hcR
  have hq2 : slots ≤ room_1.slots := Nat.le_trans (Nat.le_add_right _ 21) hsR
  obtain ⟨hl0, t0, t1, t2⟩ := id hla
  have hyb := hys.2.1
  unfold yB at hyb
  have hl : lv_has ls 16 [(0, .ref b), (1, .ref (ad 0)), (2, .ref (ad 43)), (3, .ref (ad 44)), (4, .ref (ad 45)), (5, .ref (ad 46)), (6, .ref (ad 47)), (7, .int (iI ((k : Int)))), (8, .int (iI (v))), (9, .int (iI (w))), (10, .int (iI (o))), (11, .int (iI ((i : Int))))] := hl
  refine lv_iload hx hb dL_law_283 (lv_at hl 10 rfl) ?_
  refine zi_const hx hb dL_law_285 ?_
  refine zc_ne (tgt := 336) hx hb dL_law_286 (by decide) (by first | decide | (constructor <;> omega)) (by first | decide | (constructor <;> omega)) (fun c_286 => ?_) (fun c_286 => ?_)
  · exact kkN _ _ _ hS hw (lv_sub hl [0, 1, 2, 3, 4, 5, 6, 7, 8, 9, 10, 11] rfl)
  · refine lv_aload_n hx hb dL_law_289 rfl (lv_at hl 2 rfl) ?_
    refine lv_iload hx hb dL_law_290 (lv_at hl 11 rfl) ?_
    refine l_ald hx hb hE hw 0 (by decide) i rfl (by unfold rowN; simp; omega) dL_law_292 ?_
    refine zi_top (fun v_292 hv_292 => ?_)
    have h0b : la 0 i = 0 ∨ la 0 i = 1 := by rcases hl0 i hi with ⟨c, -⟩ | ⟨c, -⟩; exact Or.inl c; exact Or.inr c
    refine zi_const hx hb dL_law_293 ?_
    refine zc_ne (tgt := 336) hx hb dL_law_294 (by decide) (by first | decide | (constructor <;> omega)) (by first | decide | (constructor <;> omega)) (fun c_294 => ?_) (fun c_294 => ?_)
    · exact kkN _ _ _ hS hw (lv_sub hl [0, 1, 2, 3, 4, 5, 6, 7, 8, 9, 10, 11] rfl)
    · obtain ⟨p0, hp0, m1, m2, m3⟩ : ∃ p, pr i = some p ∧ p.1 1 = la 1 i ∧ p.1 2 = la 2 i ∧ p.1 3 = la 3 i := by rcases hl0 i hi with ⟨c, -⟩ | ⟨-, h⟩; (exfalso; omega); exact h
      refine lv_iload hx hb dL_law_297 (lv_at hl 9 rfl) ?_
      refine zi_const hx hb dL_law_299 ?_
      refine lv_ishr hx hb dL_law_300 ?_
      refine zi_any (fun w_300 hw_300 => ?_)
      refine zi_bipush hx hb dL_law_301 (by decide) ?_
      refine zcalli (va_runS (As := [.int (iI (w_300)), .int (iI (120))]) (rest := []) ⟨hx, hb, hml, hown, hts⟩ (c_L_low l D cy A ad _ (w_300) (120) (by first | assumption | (constructor <;> omega)) (by omega)) (va_cwS 2 hts gL_law_L_low rfl rfl rfl (by decide +kernel) ⟨(Nat.le_of_ble_eq_true rfl), (Nat.le_of_ble_eq_true rfl)⟩) (zPS hE hS) rfl rfl hl.1 rfl (lv_room (Nat.le_of_ble_eq_true rfl)) dL_law_303 ⟨hq1, hq2⟩) hS (fun z_303 H1 locs hz_303 hq hz1 hk1 hS => ?_)
      obtain ⟨hqe, hv_303, hu_303⟩ := hq
      replace hqe := hqe.symm
      subst hqe
      refine lv_istore (lv' := [(12, .int (iI (z_303))), (0, .ref b), (1, .ref (ad 0)), (2, .ref (ad 43)), (3, .ref (ad 44)), (4, .ref (ad 45)), (5, .ref (ad 46)), (6, .ref (ad 47)), (7, .int (iI ((k : Int)))), (8, .int (iI (v))), (9, .int (iI (w))), (10, .int (iI (o))), (11, .int (iI ((i : Int))))]) hx hb dL_law_306 hl (by decide) rfl (fun ls hl => ?_)
      refine lv_aload_n hx hb dL_law_308 rfl (lv_at hl 2 rfl) ?_
      refine lv_iload hx hb dL_law_309 (lv_at hl 12 rfl) ?_
      refine lv_iload hx hb dL_law_311 (lv_at hl 0 rfl) ?_
      refine zcalli (va_runV (As := [.int (iI ((i : Int))), .int (iI (z_303))]) (rest := []) ⟨hx, hb, hml, hown, hts⟩ (c_Q_move l D cy A ad T yi pr la _ (i) p0 (z_303) hw hys (by omega) hp0 (by omega)) (cwV 2 hts gL_law_X1_move rfl rfl rfl (by decide +kernel) ⟨(Nat.le_of_ble_eq_true rfl), (Nat.le_of_ble_eq_true rfl)⟩) (l_PV hE hS hw) rfl rfl hl.1 rfl (lv_room (Nat.le_of_ble_eq_true rfl)) dL_law_313 ⟨hq1, hq2⟩) hS (fun z_313 H1 locs hz_313 hq hz1 hk1 hS => ?_)
      obtain ⟨pq, q, hw, hys, hpq, e1, e2, e3, hv_313, hkp⟩ := hq
      refine lv_aload hx hb dL_law_316 (lv_at hl 6 rfl) ?_
      refine lv_iload hx hb dL_law_318 (lv_at hl 12 rfl) ?_
      refine l_ald hx hb hE hw 3 (by decide) i rfl (by unfold rowN; simp; omega) dL_law_320 ?_
      refine zi_top (fun v_320 hv_320 => ?_)
      refine zc_eq (tgt := 326) hx hb dL_law_321 (by decide) (by first | decide | (constructor <;> omega)) (by first | decide | (constructor <;> omega)) (fun c_321 => ?_) (fun c_321 => ?_)
      · refine lv_aload hx hb dL_law_326 (lv_at hl 6 rfl) ?_
        refine lv_iload hx hb dL_law_328 (lv_at hl 12 rfl) ?_
        refine lv_iload hx hb dL_law_330 (lv_at hl 0 rfl) ?_
        refine l_ast hx hb hE hS hw 3 (by decide) i rfl (by unfold rowN; simp; omega) dL_law_332 (fun H locs hw hS => ?_)
        obtain ⟨la_1, hla_1⟩ : ∃ z : Nat → Nat → Int, z = va_up la 3 (va_up (la 3) (i) (z_303)) := ⟨_, rfl⟩
        rw [← hla_1] at hw
        refine lv_goto (tgt := 506) hx hb dL_law_333 (by decide) ?_
        refine W.widen (k := cells + 3) (n := slots + 21) (by omega) (by omega) (kkT _ _ _ hS ⟨ad, _, _, _, _, rfl, rfl, rfl, rfl, rfl, rfl, hw, hys, ?_⟩ (lv_sub hl [1, 2, 3, 4, 5, 6, 7, 8, 10] rfl))
        exact LA.move hla hi hp0 hkp hpq e1 e2 e3 hla_1
      · exfalso; omega

set_option maxHeartbeats 4000000 in
set_option maxRecDepth 100000 in
theorem k_rest {pg : Program} {l : Launch} {en : Env} {s : State} {mt : MethodId} {below : List Frame} {meth : Method} {c : Code} {b : Nat} {D : va_G} {cy : Nat → ClassId} {A : Nat → Prop} (hC : LC pg s mt c b D cy A) {H : Heap} {locs : List Loc} {cells slots : Nat} {Q : State → Prop} {ls : Array Slot} (hS : va_S A s.heap H locs) (hcR : cells + 3 ≤ room_1.cells) (hsR : slots + 21 ≤ room_1.slots) {ad : Nat → Nat} {T : Nat → Int} {yi : Nat → Int} {pr : Nat → Option PS} {la : Nat → Nat → Int} (hw : LW D cy A ad T yi pr la H) (hys : YS T yi pr) (hla : LA yi pr la) {k i : Nat} {v w o : Int} (hzv : zr v) (hzw : zr w) (ho : 0 ≤ o ∧ o < 12) (hi : i < 10) (hl : lv_has ls 16 [(0, .ref b), (1, .ref (ad 0)), (2, .ref (ad 43)), (3, .ref (ad 44)), (4, .ref (ad 45)), (5, .ref (ad 46)), (6, .ref (ad 47)), (7, .int (iI ((k : Int)))), (8, .int (iI (v))), (9, .int (iI (w))), (10, .int (iI (o))), (11, .int (iI ((i : Int))))]) (kkT : ∀ (H1 : Heap) (locs1 : List Loc) (ls1 : Array Slot), va_S A s.heap H1 locs1 → LI D cy A (ad 0) (ad 43) (ad 44) (ad 45) (ad 46) (ad 47) H1 → lv_has ls1 16 [(0, .ref b), (1, .ref (ad 0)), (2, .ref (ad 43)), (3, .ref (ad 44)), (4, .ref (ad 45)), (5, .ref (ad 46)), (6, .ref (ad 47)), (7, .int (iI ((k : Int)))), (9, .int (iI (w)))] → W pg l en room_1 s mt #[Value.ref b] below meth c H1 locs1 (cells + 3) (slots + 21) Q (F0 mt 506 ls1 []))  :
    W pg l en room_1 s mt #[Value.ref b] below meth c H locs cells slots Q (F0 mt 336 ls []) := by
  obtain ⟨⟨hx, hb, hml, hown, hts⟩, hE, hAf⟩ := id hC
  have hq1 : cells ≤ room_1.cells := Nat.le_trans (Nat.le_add_right _ 3) hcR
  have hq2 : slots ≤ room_1.slots := Nat.le_trans (Nat.le_add_right _ 21) hsR
  obtain ⟨hl0, t0, t1, t2⟩ := id hla
  have hyb := hys.2.1
  unfold yB at hyb
  have hl : lv_has ls 16 [(0, .ref b), (1, .ref (ad 0)), (2, .ref (ad 43)), (3, .ref (ad 44)), (4, .ref (ad 45)), (5, .ref (ad 46)), (6, .ref (ad 47)), (7, .int (iI ((k : Int)))), (8, .int (iI (v))), (9, .int (iI (w))), (10, .int (iI (o))), (11, .int (iI ((i : Int))))] := hl
  refine lv_iload hx hb dL_law_336 (lv_at hl 10 rfl) ?_
  refine zi_bipush hx hb dL_law_338 (by decide) ?_
  refine zc_ne (tgt := 388) hx hb dL_law_340 (by decide) (by first | decide | (constructor <;> omega)) (by first | decide | (constructor <;> omega)) (fun c_340 => ?_) (fun c_340 => ?_)
  · refine lv_iload hx hb dL_law_388 (lv_at hl 10 rfl) ?_
    refine zi_bipush hx hb dL_law_390 (by decide) ?_
    refine zc_ne (tgt := 423) hx hb dL_law_392 (by decide) (by first | decide | (constructor <;> omega)) (by first | decide | (constructor <;> omega)) (fun c_392 => ?_) (fun c_392 => ?_)
    · refine lv_iload hx hb dL_law_423 (lv_at hl 10 rfl) ?_
      refine zi_bipush hx hb dL_law_425 (by decide) ?_
      refine zc_ne (tgt := 469) hx hb dL_law_427 (by decide) (by first | decide | (constructor <;> omega)) (by first | decide | (constructor <;> omega)) (fun c_427 => ?_) (fun c_427 => ?_)
      · refine lv_iload hx hb dL_law_469 (lv_at hl 10 rfl) ?_
        refine zi_bipush hx hb dL_law_471 (by decide) ?_
        refine zc_ne (tgt := 506) hx hb dL_law_473 (by decide) (by first | decide | (constructor <;> omega)) (by first | decide | (constructor <;> omega)) (fun c_473 => ?_) (fun c_473 => ?_)
        · refine W.widen (k := cells + 3) (n := slots + 21) (by omega) (by omega) (kkT _ _ _ hS ⟨ad, _, _, _, _, rfl, rfl, rfl, rfl, rfl, rfl, hw, hys, ?_⟩ (lv_sub hl [0, 1, 2, 3, 4, 5, 6, 7, 9] rfl))
          exact hla
        · refine lv_iload hx hb dL_law_476 (lv_at hl 9 rfl) ?_
          refine zi_bipush hx hb dL_law_478 (by decide) ?_
          refine zcalli (va_runS (As := [.int (iI (w)), .int (iI (40))]) (rest := []) ⟨hx, hb, hml, hown, hts⟩ (c_L_low l D cy A ad _ (w) (40) (by first | assumption | (constructor <;> omega)) (by omega)) (va_cwS 2 hts gL_law_L_low rfl rfl rfl (by decide +kernel) ⟨(Nat.le_of_ble_eq_true rfl), (Nat.le_of_ble_eq_true rfl)⟩) (zPS hE hS) rfl rfl hl.1 rfl (lv_room (Nat.le_of_ble_eq_true rfl)) dL_law_480 ⟨hq1, hq2⟩) hS (fun z_480 H1 locs hz_480 hq hz1 hk1 hS => ?_)
          obtain ⟨hqe, hv_480, hu_480⟩ := hq
          replace hqe := hqe.symm
          subst hqe
          refine lv_istore (lv' := [(12, .int (iI (z_480))), (0, .ref b), (1, .ref (ad 0)), (2, .ref (ad 43)), (3, .ref (ad 44)), (4, .ref (ad 45)), (5, .ref (ad 46)), (6, .ref (ad 47)), (7, .int (iI ((k : Int)))), (8, .int (iI (v))), (9, .int (iI (w))), (10, .int (iI (o))), (11, .int (iI ((i : Int))))]) hx hb dL_law_483 hl (by decide) rfl (fun ls hl => ?_)
          refine lv_aload_n hx hb dL_law_485 rfl (lv_at hl 2 rfl) ?_
          refine lv_iload hx hb dL_law_486 (lv_at hl 0 rfl) ?_
          refine zcalli (va_runV (As := [.int (iI (z_480))]) (rest := []) ⟨hx, hb, hml, hown, hts⟩ (c_Q_setPanels l D cy A ad T yi pr la _ (z_480) hw hys (by omega)) (cwV 1 hts gL_law_X1_setPanels rfl rfl rfl (by decide +kernel) ⟨(Nat.le_of_ble_eq_true rfl), (Nat.le_of_ble_eq_true rfl)⟩) (l_PV hE hS hw) rfl rfl hl.1 rfl (lv_room (Nat.le_of_ble_eq_true rfl)) dL_law_488 ⟨hq1, hq2⟩) hS (fun z_488 H1 locs hz_488 hq hz1 hk1 hS => ?_)
          obtain ⟨hw, hys, hv_488⟩ := hq
          refine lv_aload hx hb dL_law_491 (lv_at hl 7 rfl) ?_
          refine zi_const hx hb dL_law_493 ?_
          refine l_ald hx hb hE hw 4 (by decide) 2 rfl (by decide) dL_law_494 ?_
          refine zi_top (fun v_494 hv_494 => ?_)
          refine zc_eq (tgt := 500) hx hb dL_law_495 (by decide) (by first | decide | (constructor <;> omega)) (by first | decide | (constructor <;> omega)) (fun c_495 => ?_) (fun c_495 => ?_)
          · refine lv_aload hx hb dL_law_500 (lv_at hl 7 rfl) ?_
            refine zi_const hx hb dL_law_502 ?_
            refine lv_iload hx hb dL_law_503 (lv_at hl 0 rfl) ?_
            refine l_ast hx hb hE hS hw 4 (by decide) 2 rfl (by decide) dL_law_505 (fun H locs hw hS => ?_)
            obtain ⟨la_1, hla_1⟩ : ∃ z : Nat → Nat → Int, z = va_up la 4 (va_up (la 4) (2) (z_480)) := ⟨_, rfl⟩
            rw [← hla_1] at hw
            refine W.widen (k := cells + 3) (n := slots + 21) (by omega) (by omega) (kkT _ _ _ hS ⟨ad, _, _, _, _, rfl, rfl, rfl, rfl, rfl, rfl, hw, hys, ?_⟩ (lv_sub hl [1, 2, 3, 4, 5, 6, 7, 8, 10] rfl))
            exact LA.all hla (fun j _ => keep1_r) (fun r hr => by rw [hla_1, up_ne _ _ (by omega)]) (by rw [hla_1, row_n (by omega), up_ne _ _ (by decide)]; exact t0) (by rw [hla_1, row_n (by omega), up_ne _ _ (by decide)]; exact t1) (by rw [hla_1, row_s, up_same])
          · exfalso; omega
      · refine lv_aload hx hb dL_law_430 (lv_at hl 6 rfl) ?_
        refine zi_const hx hb dL_law_432 ?_
        refine lv_iload hx hb dL_law_433 (lv_at hl 9 rfl) ?_
        refine zi_bipush hx hb dL_law_435 (by decide) ?_
        refine zcalli (va_runS (As := [.int (iI (w)), .int (iI (9))]) (rest := [.int (iI (0)), .ref (ad 47)]) ⟨hx, hb, hml, hown, hts⟩ (c_L_low l D cy A ad _ (w) (9) (by first | assumption | (constructor <;> omega)) (by omega)) (va_cwS 2 hts gL_law_L_low rfl rfl rfl (by decide +kernel) ⟨(Nat.le_of_ble_eq_true rfl), (Nat.le_of_ble_eq_true rfl)⟩) (zPS hE hS) rfl rfl hl.1 rfl (lv_room (Nat.le_of_ble_eq_true rfl)) dL_law_437 ⟨hq1, hq2⟩) hS (fun z_437 H1 locs hz_437 hq hz1 hk1 hS => ?_)
        obtain ⟨hqe, hv_437, hu_437⟩ := hq
        replace hqe := hqe.symm
        subst hqe
        refine l_ast hx hb hE hS hw 4 (by decide) 0 rfl (by decide) dL_law_440 (fun H locs hw hS => ?_)
        obtain ⟨la_2, hla_2⟩ : ∃ z : Nat → Nat → Int, z = va_up la 4 (va_up (la 4) (0) (z_437)) := ⟨_, rfl⟩
        rw [← hla_2] at hw
        refine lv_aload hx hb dL_law_441 (lv_at hl 6 rfl) ?_
        refine zi_const hx hb dL_law_443 ?_
        refine lv_iload hx hb dL_law_444 (lv_at hl 9 rfl) ?_
        refine zi_const hx hb dL_law_446 ?_
        refine lv_ishr hx hb dL_law_447 ?_
        refine zi_any (fun w_447 hw_447 => ?_)
        refine zi_bipush hx hb dL_law_448 (by decide) ?_
        refine zcalli (va_runS (As := [.int (iI (w_447)), .int (iI (9))]) (rest := [.int (iI (1)), .ref (ad 47)]) ⟨hx, hb, hml, hown, hts⟩ (c_L_low l D cy A ad _ (w_447) (9) (by first | assumption | (constructor <;> omega)) (by omega)) (va_cwS 2 hts gL_law_L_low rfl rfl rfl (by decide +kernel) ⟨(Nat.le_of_ble_eq_true rfl), (Nat.le_of_ble_eq_true rfl)⟩) (zPS hE hS) rfl rfl hl.1 rfl (lv_room (Nat.le_of_ble_eq_true rfl)) dL_law_450 ⟨hq1, hq2⟩) hS (fun z_450 H1 locs hz_450 hq hz1 hk1 hS => ?_)
        obtain ⟨hqe, hv_450, hu_450⟩ := hq
        replace hqe := hqe.symm
        subst hqe
        refine l_ast hx hb hE hS hw 4 (by decide) 1 rfl (by decide) dL_law_453 (fun H locs hw hS => ?_)
        obtain ⟨la_3, hla_3⟩ : ∃ z : Nat → Nat → Int, z = va_up la_2 4 (va_up (la_2 4) (1) (z_450)) := ⟨_, rfl⟩
        rw [← hla_3] at hw
        refine lv_aload_n hx hb dL_law_454 rfl (lv_at hl 1 rfl) ?_
        refine lv_aload hx hb dL_law_455 (lv_at hl 6 rfl) ?_
        refine zi_const hx hb dL_law_457 ?_
        refine l_ald hx hb hE hw 4 (by decide) 0 rfl (by decide) dL_law_458 ?_
        refine zi_top (fun v_458 hv_458 => ?_)
        have e58 : v_458 = z_437 := by rw [hv_458, hla_3, row_n (by omega), hla_2]; exact row_s
        refine lv_aload hx hb dL_law_459 (lv_at hl 6 rfl) ?_
        refine zi_const hx hb dL_law_461 ?_
        refine l_ald hx hb hE hw 4 (by decide) 1 rfl (by decide) dL_law_462 ?_
        refine zi_top (fun v_462 hv_462 => ?_)
        have e62 : v_462 = z_450 := by rw [hv_462, hla_3]; exact row_s
        refine zcallv (va_runV (As := [.int (iI (v_458)), .int (iI (v_462))]) (rest := []) ⟨hx, hb, hml, hown, hts⟩ (c_Q_setCrew l D cy A ad T yi pr la_3 _ (v_458) (v_462) hw hys (by omega) (by omega)) (cwV 2 hts gL_law_X1_setCrew rfl rfl rfl (by decide +kernel) ⟨(Nat.le_of_ble_eq_true rfl), (Nat.le_of_ble_eq_true rfl)⟩) (l_PV hE hS hw) rfl rfl hl.1 rfl (lv_room (Nat.le_of_ble_eq_true rfl)) dL_law_463 ⟨hq1, hq2⟩) hS (fun H1 locs hq hz1 hk1 hS => ?_)
        obtain ⟨pq, hw, hys, hkp⟩ := hq
        refine lv_goto (tgt := 506) hx hb dL_law_466 (by decide) ?_
        refine W.widen (k := cells + 3) (n := slots + 21) (by omega) (by omega) (kkT _ _ _ hS ⟨ad, _, _, _, _, rfl, rfl, rfl, rfl, rfl, rfl, hw, hys, ?_⟩ (lv_sub hl [0, 1, 2, 3, 4, 5, 6, 7, 9] rfl))
        exact LA.all hla hkp (fun r hr => by rw [hla_3, up_ne _ _ (by omega), hla_2, up_ne _ _ (by omega)]) (by rw [up_ne _ _ (by decide), up_same, hv_458]) (by rw [up_same, hv_462]) (by rw [up_ne _ _ (by decide), up_ne _ _ (by decide), hla_3, row_n (by omega), hla_2, row_n (by omega)]; exact t2)
    · refine lv_aload_n hx hb dL_law_395 rfl (lv_at hl 1 rfl) ?_
      refine zi_const hx hb dL_law_396 ?_
      refine lv_iload hx hb dL_law_397 (lv_at hl 9 rfl) ?_
      refine zi_bipush hx hb dL_law_399 (by decide) ?_
      refine zcalli (va_runS (As := [.int (iI (w)), .int (iI (20))]) (rest := [.int (iI (1)), .ref (ad 0)]) ⟨hx, hb, hml, hown, hts⟩ (c_L_low l D cy A ad _ (w) (20) (by first | assumption | (constructor <;> omega)) (by omega)) (va_cwS 2 hts gL_law_L_low rfl rfl rfl (by decide +kernel) ⟨(Nat.le_of_ble_eq_true rfl), (Nat.le_of_ble_eq_true rfl)⟩) (zPS hE hS) rfl rfl hl.1 rfl (lv_room (Nat.le_of_ble_eq_true rfl)) dL_law_401 ⟨hq1, hq2⟩) hS (fun z_401 H1 locs hz_401 hq hz1 hk1 hS => ?_)
      obtain ⟨hqe, hv_401, hu_401⟩ := hq
      replace hqe := hqe.symm
      subst hqe
      refine zi_add hx hb dL_law_404 ?_
      refine zi_const hx hb dL_law_405 ?_
      refine lv_iload hx hb dL_law_406 (lv_at hl 9 rfl) ?_
      refine zi_const hx hb dL_law_408 ?_
      refine lv_ishr hx hb dL_law_409 ?_
      refine zi_any (fun w_409 hw_409 => ?_)
      refine zi_bipush hx hb dL_law_410 (by decide) ?_
      refine zcalli (va_runS (As := [.int (iI (w_409)), .int (iI (20))]) (rest := [.int (iI (1)), .int (iI (1 + z_401)), .ref (ad 0)]) ⟨hx, hb, hml, hown, hts⟩ (c_L_low l D cy A ad _ (w_409) (20) (by first | assumption | (constructor <;> omega)) (by omega)) (va_cwS 2 hts gL_law_L_low rfl rfl rfl (by decide +kernel) ⟨(Nat.le_of_ble_eq_true rfl), (Nat.le_of_ble_eq_true rfl)⟩) (zPS hE hS) rfl rfl hl.1 rfl (lv_room (Nat.le_of_ble_eq_true rfl)) dL_law_412 ⟨hq1, hq2⟩) hS (fun z_412 H1 locs hz_412 hq hz1 hk1 hS => ?_)
      obtain ⟨hqe, hv_412, hu_412⟩ := hq
      replace hqe := hqe.symm
      subst hqe
      refine zi_add hx hb dL_law_415 ?_
      refine zcalli (va_runV (As := [.int (iI (1 + z_401)), .int (iI (1 + z_412))]) (rest := []) ⟨hx, hb, hml, hown, hts⟩ (c_Q_setRates l D cy A ad T yi pr la _ (1 + z_401) (1 + z_412) hw hys (by omega) (by omega)) (cwV 2 hts gL_law_X1_setRates rfl rfl rfl (by decide +kernel) ⟨(Nat.le_of_ble_eq_true rfl), (Nat.le_of_ble_eq_true rfl)⟩) (l_PV hE hS hw) rfl rfl hl.1 rfl (lv_room (Nat.le_of_ble_eq_true rfl)) dL_law_416 ⟨hq1, hq2⟩) hS (fun z_416 H1 locs hz_416 hq hz1 hk1 hS => ?_)
      obtain ⟨pq, hw, hys, hkp⟩ := hq
      refine lv_pop hx hb dL_law_419 rfl ?_
      refine lv_goto (tgt := 506) hx hb dL_law_420 (by decide) ?_
      refine W.widen (k := cells + 3) (n := slots + 21) (by omega) (by omega) (kkT _ _ _ hS ⟨ad, _, _, _, _, rfl, rfl, rfl, rfl, rfl, rfl, hw, hys, ?_⟩ (lv_sub hl [0, 1, 2, 3, 4, 5, 6, 7, 9] rfl))
      exact LA.all hla hkp (fun _ _ => rfl) (by rw [up_ne _ _ (by decide)]; exact t0) (by rw [up_ne _ _ (by decide)]; exact t1) (by rw [up_ne _ _ (by decide)]; exact t2)
  · refine lv_iload hx hb dL_law_343 (lv_at hl 9 rfl) ?_
    refine zi_sipush hx hb dL_law_345 (by decide) ?_
    refine zcalli (va_runS (As := [.int (iI (w)), .int (iI (200))]) (rest := []) ⟨hx, hb, hml, hown, hts⟩ (c_L_low l D cy A ad _ (w) (200) (by first | assumption | (constructor <;> omega)) (by omega)) (va_cwS 2 hts gL_law_L_low rfl rfl rfl (by decide +kernel) ⟨(Nat.le_of_ble_eq_true rfl), (Nat.le_of_ble_eq_true rfl)⟩) (zPS hE hS) rfl rfl hl.1 rfl (lv_room (Nat.le_of_ble_eq_true rfl)) dL_law_348 ⟨hq1, hq2⟩) hS (fun z_348 H1 locs hz_348 hq hz1 hk1 hS => ?_)
    obtain ⟨hqe, hv_348, hu_348⟩ := hq
    replace hqe := hqe.symm
    subst hqe
    refine lv_istore (lv' := [(12, .int (iI (z_348))), (0, .ref b), (1, .ref (ad 0)), (2, .ref (ad 43)), (3, .ref (ad 44)), (4, .ref (ad 45)), (5, .ref (ad 46)), (6, .ref (ad 47)), (7, .int (iI ((k : Int)))), (8, .int (iI (v))), (9, .int (iI (w))), (10, .int (iI (o))), (11, .int (iI ((i : Int))))]) hx hb dL_law_351 hl (by decide) rfl (fun ls hl => ?_)
    refine lv_aload_n hx hb dL_law_353 rfl (lv_at hl 2 rfl) ?_
    refine lv_iload hx hb dL_law_354 (lv_at hl 0 rfl) ?_
    refine lv_iload hx hb dL_law_356 (lv_at hl 0 rfl) ?_
    refine lv_iload hx hb dL_law_358 (lv_at hl 10 rfl) ?_
    refine zi_bipush hx hb dL_law_360 (by decide) ?_
    refine lv_ishr hx hb dL_law_362 ?_
    refine zi_any (fun w_362 hw_362 => ?_)
    refine zi_bipush hx hb dL_law_363 (by decide) ?_
    refine zcalli (va_runS (As := [.int (iI (w_362)), .int (iI (100))]) (rest := [.int (iI (z_348)), .int (iI (z_348)), .ref (ad 0)]) ⟨hx, hb, hml, hown, hts⟩ (c_L_low l D cy A ad _ (w_362) (100) (by first | assumption | (constructor <;> omega)) (by omega)) (va_cwS 2 hts gL_law_L_low rfl rfl rfl (by decide +kernel) ⟨(Nat.le_of_ble_eq_true rfl), (Nat.le_of_ble_eq_true rfl)⟩) (zPS hE hS) rfl rfl hl.1 rfl (lv_room (Nat.le_of_ble_eq_true rfl)) dL_law_365 ⟨hq1, hq2⟩) hS (fun z_365 H1 locs hz_365 hq hz1 hk1 hS => ?_)
    obtain ⟨hqe, hv_365, hu_365⟩ := hq
    replace hqe := hqe.symm
    subst hqe
    refine zi_add hx hb dL_law_368 ?_
    refine lv_iload hx hb dL_law_369 (lv_at hl 10 rfl) ?_
    refine zi_bipush hx hb dL_law_371 (by decide) ?_
    refine lv_ishr hx hb dL_law_373 ?_
    refine zi_any (fun w_373 hw_373 => ?_)
    refine zi_bipush hx hb dL_law_374 (by decide) ?_
    refine zcalli (va_runS (As := [.int (iI (w_373)), .int (iI (70))]) (rest := [.int (iI (z_348 + z_365)), .int (iI (z_348)), .ref (ad 0)]) ⟨hx, hb, hml, hown, hts⟩ (c_L_low l D cy A ad _ (w_373) (70) (by first | assumption | (constructor <;> omega)) (by omega)) (va_cwS 2 hts gL_law_L_low rfl rfl rfl (by decide +kernel) ⟨(Nat.le_of_ble_eq_true rfl), (Nat.le_of_ble_eq_true rfl)⟩) (zPS hE hS) rfl rfl hl.1 rfl (lv_room (Nat.le_of_ble_eq_true rfl)) dL_law_376 ⟨hq1, hq2⟩) hS (fun z_376 H1 locs hz_376 hq hz1 hk1 hS => ?_)
    obtain ⟨hqe, hv_376, hu_376⟩ := hq
    replace hqe := hqe.symm
    subst hqe
    refine zi_bipush hx hb dL_law_379 (by decide) ?_
    refine zi_sub hx hb dL_law_381 ?_
    refine zcallv (va_runV (As := [.int (iI (z_348)), .int (iI (z_348 + z_365)), .int (iI (z_376 - 30))]) (rest := []) ⟨hx, hb, hml, hown, hts⟩ (c_Q_setTemperature l D cy A ad T yi pr la _ (z_348) (z_348 + z_365) (z_376 - 30) hw hys (by omega) (by omega)) (cwV 3 hts gL_law_X1_setTemperature rfl rfl rfl (by decide +kernel) ⟨(Nat.le_of_ble_eq_true rfl), (Nat.le_of_ble_eq_true rfl)⟩) (l_PV hE hS hw) rfl rfl hl.1 rfl (lv_room (Nat.le_of_ble_eq_true rfl)) dL_law_382 ⟨hq1, hq2⟩) hS (fun H1 locs hq hz1 hk1 hS => ?_)
    obtain ⟨pq, hw, hys, hkp⟩ := hq
    refine lv_goto (tgt := 506) hx hb dL_law_385 (by decide) ?_
    refine W.widen (k := cells + 3) (n := slots + 21) (by omega) (by omega) (kkT _ _ _ hS ⟨ad, _, _, _, _, rfl, rfl, rfl, rfl, rfl, rfl, hw, hys, ?_⟩ (lv_sub hl [1, 2, 3, 4, 5, 6, 7, 8, 10] rfl))
    exact LA.all hla hkp (fun _ _ => rfl) t0 t1 t2

set_option maxHeartbeats 4000000 in
set_option maxRecDepth 100000 in
theorem k_head {pg : Program} {l : Launch} {en : Env} {s : State} {mt : MethodId} {below : List Frame} {meth : Method} {c : Code} {b : Nat} {D : va_G} {cy : Nat → ClassId} {A : Nat → Prop} (hC : LC pg s mt c b D cy A) {H : Heap} {locs : List Loc} {cells slots : Nat} {Q : State → Prop} {ls : Array Slot} (hS : va_S A s.heap H locs) (hcR : cells + 3 ≤ room_1.cells) (hsR : slots + 21 ≤ room_1.slots) {L : Nat} {xs : Nat → Int32} (hX : va_X b L xs s s.heap) (hbl : b < s.heap.size) (hbA : ¬ A b) (hL : L ≤ 260) {ad : Nat → Nat} {T : Nat → Int} {yi : Nat → Int} {pr : Nat → Option PS} {la : Nat → Nat → Int} (hw : LW D cy A ad T yi pr la H) (hys : YS T yi pr) (hla : LA yi pr la) {k : Nat} (hk40 : k ≤ 40) (hl : lv_has ls 16 [(0, .ref b), (1, .ref (ad 0)), (2, .ref (ad 43)), (3, .ref (ad 44)), (4, .ref (ad 45)), (5, .ref (ad 46)), (6, .ref (ad 47)), (7, .int (iI ((k : Int))))]) (kkN : ∀ (H1 : Heap) (locs1 : List Loc) (ls1 : Array Slot) (v w o : Int) (i : Nat), (k : Int) < 40 → zr v → zr w → (0 ≤ o ∧ o < 12) → i < 10 → va_S A s.heap H1 locs1 → LW D cy A ad T yi pr la H1 → lv_has ls1 16 [(0, .ref b), (1, .ref (ad 0)), (2, .ref (ad 43)), (3, .ref (ad 44)), (4, .ref (ad 45)), (5, .ref (ad 46)), (6, .ref (ad 47)), (7, .int (iI ((k : Int)))), (8, .int (iI (v))), (9, .int (iI (w))), (10, .int (iI (o))), (11, .int (iI ((i : Int))))] → W pg l en room_1 s mt #[Value.ref b] below meth c H1 locs1 (cells) (slots) Q (F0 mt 101 ls1 [])) (kkE : ∀ (H1 : Heap) (locs1 : List Loc) (ls1 : Array Slot), 40 ≤ (k : Int) → va_S A s.heap H1 locs1 → LW D cy A ad T yi pr la H1 → lv_has ls1 16 [(0, .ref b), (1, .ref (ad 0)), (2, .ref (ad 43)), (3, .ref (ad 44)), (4, .ref (ad 45)), (5, .ref (ad 46)), (6, .ref (ad 47)), (7, .int (iI ((k : Int))))] → W pg l en room_1 s mt #[Value.ref b] below meth c H1 locs1 (cells) (slots) Q (F0 mt 652 ls1 []))  :
    W pg l en room_1 s mt #[Value.ref b] below meth c H locs cells slots Q (F0 mt 54 ls []) := by
  obtain ⟨⟨hx, hb, hml, hown, hts⟩, hE, hAf⟩ := id hC
  have hq1 : cells ≤ room_1.cells := Nat.le_trans (Nat.le_add_right _ 3) hcR
  have hq2 : slots ≤ room_1.slots := Nat.le_trans (Nat.le_add_right _ 21) hsR
  have hl : lv_has ls 16 [(0, .ref b), (1, .ref (ad 0)), (2, .ref (ad 43)), (3, .ref (ad 44)), (4, .ref (ad 45)), (5, .ref (ad 46)), (6, .ref (ad 47)), (7, .int (iI ((k : Int))))] := hl
  refine lv_iload hx hb dL_law_54 (lv_at hl 7 rfl) ?_
  refine zi_bipush hx hb dL_law_56 (by decide) ?_
  refine zc_ge (tgt := 652) hx hb dL_law_58 (by decide) (by first | decide | (constructor <;> omega)) (by first | decide | (constructor <;> omega)) (fun c_58 => ?_) (fun c_58 => ?_)
  · exact kkE _ _ _ (by omega) hS hw (lv_sub hl [0, 1, 2, 3, 4, 5, 6, 7] rfl)
  · refine lv_aload_n hx hb dL_law_61 rfl (lv_at hl 0 rfl) ?_
    refine zi_const hx hb dL_law_62 ?_
    refine lv_iload hx hb dL_law_63 (lv_at hl 7 rfl) ?_
    refine zi_mul hx hb dL_law_65 ?_
    refine zcalli (va_runS (As := [.ref b, .int (iI (2 * ((k : Int))))]) (rest := []) ⟨hx, hb, hml, hown, hts⟩ (c_L_cell l D cy A ad _ b L xs (2 * ((k : Int))) hbA hL (by omega)) (va_cwS 2 hts gL_law_L_cell rfl rfl rfl (by decide +kernel) ⟨(Nat.le_of_ble_eq_true rfl), (Nat.le_of_ble_eq_true rfl)⟩) (cellPS hX hbl hbA hS) rfl rfl hl.1 rfl (lv_room (Nat.le_of_ble_eq_true rfl)) dL_law_66 ⟨hq1, hq2⟩) hS (fun z_66 H1 locs hz_66 hq hz1 hk1 hS => ?_)
    replace hq := hq.symm
    subst hq
    refine lv_istore (lv' := [(8, .int (iI (z_66))), (0, .ref b), (1, .ref (ad 0)), (2, .ref (ad 43)), (3, .ref (ad 44)), (4, .ref (ad 45)), (5, .ref (ad 46)), (6, .ref (ad 47)), (7, .int (iI ((k : Int))))]) hx hb dL_law_69 hl (by decide) rfl (fun ls hl => ?_)
    refine lv_aload_n hx hb dL_law_71 rfl (lv_at hl 1 rfl) ?_
    refine zi_const hx hb dL_law_72 ?_
    refine lv_iload hx hb dL_law_73 (lv_at hl 8 rfl) ?_
    refine zi_mul hx hb dL_law_75 ?_
    refine zi_const hx hb dL_law_76 ?_
    refine zi_add hx hb dL_law_77 ?_
    refine zcalli (va_runS (As := [.ref b, .int (iI ((2 * ((k : Int))) + 1))]) (rest := []) ⟨hx, hb, hml, hown, hts⟩ (c_L_cell l D cy A ad _ b L xs ((2 * ((k : Int))) + 1) hbA hL (by omega)) (va_cwS 2 hts gL_law_L_cell rfl rfl rfl (by decide +kernel) ⟨(Nat.le_of_ble_eq_true rfl), (Nat.le_of_ble_eq_true rfl)⟩) (cellPS hX hbl hbA hS) rfl rfl hl.1 rfl (lv_room (Nat.le_of_ble_eq_true rfl)) dL_law_78 ⟨hq1, hq2⟩) hS (fun z_78 H1 locs hz_78 hq hz1 hk1 hS => ?_)
    replace hq := hq.symm
    subst hq
    refine lv_istore (lv' := [(9, .int (iI (z_78))), (8, .int (iI (z_66))), (0, .ref b), (1, .ref (ad 0)), (2, .ref (ad 43)), (3, .ref (ad 44)), (4, .ref (ad 45)), (5, .ref (ad 46)), (6, .ref (ad 47)), (7, .int (iI ((k : Int))))]) hx hb dL_law_81 hl (by decide) rfl (fun ls hl => ?_)
    refine lv_iload hx hb dL_law_83 (lv_at hl 1 rfl) ?_
    refine zi_bipush hx hb dL_law_85 (by decide) ?_
    refine zcalli (va_runS (As := [.int (iI (z_66)), .int (iI (12))]) (rest := []) ⟨hx, hb, hml, hown, hts⟩ (c_L_low l D cy A ad _ (z_66) (12) (by first | assumption | (constructor <;> omega)) (by omega)) (va_cwS 2 hts gL_law_L_low rfl rfl rfl (by decide +kernel) ⟨(Nat.le_of_ble_eq_true rfl), (Nat.le_of_ble_eq_true rfl)⟩) (zPS hE hS) rfl rfl hl.1 rfl (lv_room (Nat.le_of_ble_eq_true rfl)) dL_law_87 ⟨hq1, hq2⟩) hS (fun z_87 H1 locs hz_87 hq hz1 hk1 hS => ?_)
    obtain ⟨hqe, hv_87, hu_87⟩ := hq
    replace hqe := hqe.symm
    subst hqe
    refine lv_istore (lv' := [(10, .int (iI (z_87))), (9, .int (iI (z_78))), (8, .int (iI (z_66))), (0, .ref b), (1, .ref (ad 0)), (2, .ref (ad 43)), (3, .ref (ad 44)), (4, .ref (ad 45)), (5, .ref (ad 46)), (6, .ref (ad 47)), (7, .int (iI ((k : Int))))]) hx hb dL_law_90 hl (by decide) rfl (fun ls hl => ?_)
    refine lv_iload hx hb dL_law_92 (lv_at hl 1 rfl) ?_
    refine zi_bipush hx hb dL_law_94 (by decide) ?_
    refine zcalli (va_runS (As := [.int (iI (z_78)), .int (iI (10))]) (rest := []) ⟨hx, hb, hml, hown, hts⟩ (c_L_low l D cy A ad _ (z_78) (10) (by first | assumption | (constructor <;> omega)) (by omega)) (va_cwS 2 hts gL_law_L_low rfl rfl rfl (by decide +kernel) ⟨(Nat.le_of_ble_eq_true rfl), (Nat.le_of_ble_eq_true rfl)⟩) (zPS hE hS) rfl rfl hl.1 rfl (lv_room (Nat.le_of_ble_eq_true rfl)) dL_law_96 ⟨hq1, hq2⟩) hS (fun z_96 H1 locs hz_96 hq hz1 hk1 hS => ?_)
    obtain ⟨hqe, hv_96, hu_96⟩ := hq
    replace hqe := hqe.symm
    subst hqe
    obtain ⟨i, hi9⟩ : ∃ i : Nat, z_96 = (i : Int) := ⟨z_96.toNat, by omega⟩
    subst hi9
    refine lv_istore (lv' := [(11, .int (iI ((i : Int)))), (10, .int (iI (z_87))), (9, .int (iI (z_78))), (8, .int (iI (z_66))), (0, .ref b), (1, .ref (ad 0)), (2, .ref (ad 43)), (3, .ref (ad 44)), (4, .ref (ad 45)), (5, .ref (ad 46)), (6, .ref (ad 47)), (7, .int (iI ((k : Int))))]) hx hb dL_law_99 hl (by decide) rfl (fun ls hl => ?_)
    exact kkN _ _ _ z_66 z_78 z_87 i (by omega) hz_66 hz_78 (by omega) (by omega) hS hw (lv_sub hl [4, 5, 6, 7, 8, 9, 10, 11, 3, 2, 1, 0] rfl)
