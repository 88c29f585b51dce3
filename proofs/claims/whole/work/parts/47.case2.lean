set_option maxHeartbeats 4000000 in
set_option maxRecDepth 100000 in
theorem k_move {p : Program} {l : Launch} {e : Env} {s : State} {m : MethodId} {below : List Frame} {meth : Method} {c : Code} {b0 L : Nat} {xs : Nat → Int32} (hL : L ≤ 2560) (hX : va_X b0 L xs s s.heap) (hbl : b0 < s.heap.size) {D : va_G} {cy : Nat → ClassId} {A0 AY AM : Nat → Prop} (hbA : ¬ A0 b0) (hC : LC p l s m c b0 D cy A0 AY) (hM : ∀ q, AM q → A0 q) (hYM : ∀ q, AY q → ¬ AM q) {n0 x0 m0 o0 : Nat} (hAf : ∀ q, n0 ≤ q → AY q) {H : Heap} {locs : List Loc} {cells slots : Nat} {Q : State → Prop} {ls : Array Slot} (hS : va_S A0 s.heap H locs) (hI : LI D cy AY AM n0 x0 m0 o0 H) (hc : cells + 3 ≤ room_1.cells) (hs : slots + 21 ≤ room_1.slots) {i : Nat} (hi : i + 4 < L) (hl : lv_has ls 7 (lvB b0 x0 m0 o0 i))
    (kk : ∀ (H1 : Heap) (locs1 : List Loc) (ls1 : Array Slot), va_S A0 s.heap H1 locs1 → LI D cy AY AM n0 x0 m0 o0 H1 → lv_has ls1 7 (lvB b0 x0 m0 o0 i) → W p l e room_1 s m #[Value.ref b0] below meth c H1 locs1 (cells + 3) (slots + 21) Q (F0 m 1400 ls1 [])) :
    W p l e room_1 s m #[Value.ref b0] below meth c H locs cells slots Q (F0 m 648 ls []) := by
  obtain ⟨⟨hx, hb, hml, hown, hts⟩, hlf, hE, hY⟩ := id hC
  obtain ⟨hn0, ad, adm, mi, ma, ya, yi, pr, fo, rfl, rfl, rfl, hw, hm, hR⟩ := hI
  have hAf2 : ∀ q, H.size ≤ q → AY q := fun q hq => hAf q (Nat.le_trans hn0 hq)
  have hl : lv_has ls 7 [(0, .ref b0), (1, .ref (ad 0)), (2, .ref (adm 0)), (3, .ref (ad 60)), (4, .int (iI (i : Int)))] := hl
  refine lv_aload_n hx hb dL_law_648 rfl (lv_at hl 1 rfl) ?_
  refine lv_aload_n hx hb dL_law_649 rfl (lv_at hl 0 rfl) ?_
  refine lv_iload hx hb dL_law_650 (lv_at hl 4 rfl) ?_
  refine zi_const hx hb dL_law_652 ?_
  refine zi_add hx hb dL_law_653 ?_
  refine zsld hx hb hX hbl hbA hS (j := i + 1) (by omega) (by omega) hL dL_law_654 ?_
  refine lv_aload_n hx hb dL_law_655 rfl (lv_at hl 0 rfl) ?_
  refine lv_iload hx hb dL_law_656 (lv_at hl 4 rfl) ?_
  refine zi_const hx hb dL_law_658 ?_
  refine zi_add hx hb dL_law_659 ?_
  refine zsld hx hb hX hbl hbA hS (j := i + 2) (by omega) (by omega) hL dL_law_660 ?_
  refine lv_aload_n hx hb dL_law_661 rfl (lv_at hl 3 rfl) ?_
  refine s_move hC hS hl.1 hc hs hw hR hAf2 (xI xs (i + 1)) (xI xs (i + 2)) (xI_z xs (i + 1)) (xI_z xs (i + 2)) dL_law_662 (fun k H1 locs1 hk hG hz1 hk1 hS1 => ?_)
  obtain ⟨ad2, ya2, yi2, pr2, fo2, hx0, ho0, hw1, hG⟩ := hG
  have hm1 := hm.kept hk1 (fun k v hk hB => hYM _ hB (hm.1 k v hk).2.2)
  refine lv_istore (lv' := [(5, .int (iI k)), (0, .ref b0), (1, .ref (ad 0)), (2, .ref (adm 0)), (3, .ref (ad 60)), (4, .int (iI (i : Int)))]) hx hb dL_law_665 hl (by decide) rfl (fun ls hl => ?_)
  refine lv_aload_n hx hb dL_law_667 rfl (lv_at hl 3 rfl) ?_
  refine lv_aload_n hx hb dL_law_668 rfl (lv_at hl 1 rfl) ?_
  refine lv_iload hx hb dL_law_669 (lv_at hl 5 rfl) ?_
  refine zi_const hx hb dL_law_671 ?_
  refine zi_add hx hb dL_law_672 ?_
  refine zsld hx hb hX hbl hbA hS1 (j := i + 1) (by omega) (by omega) hL dL_law_673 ?_
  refine lv_aload_n hx hb dL_law_674 rfl (lv_at hl 1 rfl) ?_
  refine lv_iload hx hb dL_law_675 (lv_at hl 5 rfl) ?_
  refine zi_const hx hb dL_law_677 ?_
  refine zi_add hx hb dL_law_678 ?_
  refine zsld hx hb hX hbl hbA hS1 (j := i + 2) (by omega) (by omega) hL dL_law_679 ?_
  refine zcalliN hM (va_runV (As := [.int (iI (xI xs (i + 1))), .int (iI (xI xs (i + 2)))]) (rest := []) ⟨hx, hb, hml, hown, hts⟩ (c_X2_move l D cy AM adm mi ma H1 (xI xs (i + 1)) (xI xs (i + 2)) hm1 (xI_z xs (i + 1)) (xI_z xs (i + 2)) hR.1) (cwV 2 hts gL_law_X2_move rfl rfl rfl (by decide +kernel) ⟨(Nat.le_of_ble_eq_true rfl), (Nat.le_of_ble_eq_true rfl)⟩) (zPVm hM hE hS1 hm1 (ci := 2) (k0 := 0) rfl mE_0) rfl rfl hl.1 rfl (lv_room (Nat.le_of_ble_eq_true rfl)) dL_law_680 ⟨hc, hs⟩) hS1 (fun z H2 locs2 hz hq hz2 hk2 hS2 => ?_)
  obtain ⟨c2, mi2, mb, hm2, hmi, hF⟩ : ∃ (c2 : Int) (mi2 : Nat → Int) (mb : Nat → Nat → Int), zW D AM adm (mE cy adm mi2 mb) H2 ∧ mi2 0 = c2 ∧ (UR mi ma (if isP ma (xI xs (i + 1)) then (if 0 ≤ (xI xs (i + 2)) ∧ (xI xs (i + 2)) ≤ 900 then 0 else 2) else 1) (fun z mi2 mb => mi2 = va_up mi 0 0 ∧ mb = va_up ma 8 (va_up (ma 8) (xI xs (i + 1)).toNat (xI xs (i + 2))) ∧ z = ma 8 (xI xs (i + 1)).toNat)) z c2 mi2 mb := by
    obtain ⟨c2, mb, hm2, hc2, hh⟩ := hq
    rcases hh with ⟨h1, h2⟩ | ⟨h1, h2, h3⟩
    · exact ⟨c2, _, mb, hm2, up_same _ _ _, hc2, Or.inl ⟨h1, rfl, h2⟩⟩
    · exact ⟨c2, _, mb, hm2, up_same _ _ _, hc2, Or.inr ⟨h1, by rw [h1], h3, h2⟩⟩
  obtain ⟨hek, hR2, hans⟩ := hG _ _ _ _ hF
  have hw2 := hw1.kept hk2 (fun k v hk hB => hYM _ (hw1.1 k v hk).2.2 hB)
  have hI2 : LI D cy AY AM n0 (ad 0) (adm 0) (ad 60) H2 := ⟨by omega, ad2, adm, mi2, mb, ya2, yi2, pr2, fo2, hx0, rfl, ho0, hw2, hm2, hR2⟩
  refine lv_istore (lv' := [(6, .int (iI z)), (5, .int (iI k)), (0, .ref b0), (1, .ref (ad 0)), (2, .ref (adm 0)), (3, .ref (ad 60)), (4, .int (iI (i : Int)))]) hx hb dL_law_683 hl (by decide) rfl (fun ls hl => ?_)
  refine lv_aload_n hx hb dL_law_685 rfl (lv_at hl 4 rfl) ?_
  refine zcalliN hM (va_runV (As := []) (rest := []) ⟨hx, hb, hml, hown, hts⟩ (c_X2_thrown l D cy AM adm mi2 mb H2 hm2 (by rw [hmi, hek]; exact hk)) (cwV 0 hts gL_law_X2_thrown rfl rfl rfl (by decide +kernel) ⟨(Nat.le_of_ble_eq_true rfl), (Nat.le_of_ble_eq_true rfl)⟩) (zPVm hM hE hS2 hm2 (ci := 2) (k0 := 0) rfl mE_0) rfl rfl hl.1 rfl (lv_room (Nat.le_of_ble_eq_true rfl)) dL_law_686 ⟨hc, hs⟩) hS2 (fun z3 H3 locs3 hz3 hq3 hzz3 hk3 hS3 => ?_)
  obtain ⟨hH3, hq3⟩ := hq3
  rw [hH3] at hS3 ⊢
  have hz3k : z3 = k := hq3.trans (hmi.trans hek)
  refine lv_iload hx hb dL_law_689 (lv_at hl 1 rfl) ?_
  refine zc_eq (tgt := 696) hx hb dL_law_691 (by decide) hz3 hk (fun c_1 => ?_) (fun c_1 => absurd hz3k c_1)
  have fin : W p l e room_1 s m #[Value.ref b0] below meth c H2 locs3 (cells + 3 + 0 + 0) (slots + 21 + 0 + 0) Q (F0 m 713 ls []) := by
    refine lv_goto (tgt := 1400) hx hb dL_law_713 (by decide) ?_
    exact W.widen (k := cells + 3) (n := slots + 21) (by omega) (by omega) (kk _ _ _ hS3 hI2 (lv_sub hl [2, 3, 4, 5, 6] rfl))
  refine lv_iload hx hb dL_law_696 (lv_at hl 1 rfl) ?_
  refine zf_ne (tgt := 713) hx hb dL_law_698 (by decide) hk (fun _ => fin) (fun c_2 => ?_)
  refine lv_aload_n hx hb dL_law_701 rfl (lv_at hl 5 rfl) ?_
  refine zi_const hx hb dL_law_702 ?_
  refine zlald hx hb hE hw2 ho0 dL_law_703 ?_
  refine lv_iload hx hb dL_law_704 (lv_at hl 0 rfl) ?_
  refine lv_i2l hx hb dL_law_706 rfl ?_
  refine W.lcmp hx hb dL_law_707 ?_
  obtain ⟨r9, h90, h91⟩ := zlcmp (fo2 0) ((iI z).toInt64)
  rw [h91]
  have h92 : r9 = 0 := by
    rcases h90 with ⟨h, -⟩ | ⟨-, h⟩
    · exact h
    · exact absurd (hans c_2) h
  exact zf_eq (tgt := 713) hx hb dL_law_708 (by decide) (by rw [h92]; decide) (fun _ => fin) (fun c_3 => absurd h92 c_3)

set_option maxHeartbeats 4000000 in
set_option maxRecDepth 100000 in
theorem k_cancel {p : Program} {l : Launch} {e : Env} {s : State} {m : MethodId} {below : List Frame} {meth : Method} {c : Code} {b0 L : Nat} {xs : Nat → Int32} (hL : L ≤ 2560) (hX : va_X b0 L xs s s.heap) (hbl : b0 < s.heap.size) {D : va_G} {cy : Nat → ClassId} {A0 AY AM : Nat → Prop} (hbA : ¬ A0 b0) (hC : LC p l s m c b0 D cy A0 AY) (hM : ∀ q, AM q → A0 q) (hYM : ∀ q, AY q → ¬ AM q) {n0 x0 m0 o0 : Nat} (hAf : ∀ q, n0 ≤ q → AY q) {H : Heap} {locs : List Loc} {cells slots : Nat} {Q : State → Prop} {ls : Array Slot} (hS : va_S A0 s.heap H locs) (hI : LI D cy AY AM n0 x0 m0 o0 H) (hc : cells + 3 ≤ room_1.cells) (hs : slots + 21 ≤ room_1.slots) {i : Nat} (hi : i + 4 < L) (hl : lv_has ls 7 (lvB b0 x0 m0 o0 i))
    (kk : ∀ (H1 : Heap) (locs1 : List Loc) (ls1 : Array Slot), va_S A0 s.heap H1 locs1 → LI D cy AY AM n0 x0 m0 o0 H1 → lv_has ls1 7 (lvB b0 x0 m0 o0 i) → W p l e room_1 s m #[Value.ref b0] below meth c H1 locs1 (cells + 3) (slots + 21) Q (F0 m 1400 ls1 [])) :
    W p l e room_1 s m #[Value.ref b0] below meth c H locs cells slots Q (F0 m 716 ls []) := by
  obtain ⟨⟨hx, hb, hml, hown, hts⟩, hlf, hE, hY⟩ := id hC
  obtain ⟨hn0, ad, adm, mi, ma, ya, yi, pr, fo, rfl, rfl, rfl, hw, hm, hR⟩ := hI
  have hAf2 : ∀ q, H.size ≤ q → AY q := fun q hq => hAf q (Nat.le_trans hn0 hq)
  have hl : lv_has ls 7 [(0, .ref b0), (1, .ref (ad 0)), (2, .ref (adm 0)), (3, .ref (ad 60)), (4, .int (iI (i : Int)))] := hl
  refine lv_aload_n hx hb dL_law_716 rfl (lv_at hl 1 rfl) ?_
  refine lv_aload_n hx hb dL_law_717 rfl (lv_at hl 0 rfl) ?_
  refine lv_iload hx hb dL_law_718 (lv_at hl 4 rfl) ?_
  refine zi_const hx hb dL_law_720 ?_
  refine zi_add hx hb dL_law_721 ?_
  refine zsld hx hb hX hbl hbA hS (j := i + 1) (by omega) (by omega) hL dL_law_722 ?_
  refine lv_aload_n hx hb dL_law_723 rfl (lv_at hl 3 rfl) ?_
  refine s_cancel hC hS hl.1 hc hs hw hR hAf2 (xI xs (i + 1)) (xI_z xs (i + 1)) dL_law_724 (fun k H1 locs1 hk hG hz1 hk1 hS1 => ?_)
  obtain ⟨ad2, ya2, yi2, pr2, fo2, hx0, ho0, hw1, hG⟩ := hG
  have hm1 := hm.kept hk1 (fun k v hk hB => hYM _ hB (hm.1 k v hk).2.2)
  refine lv_istore (lv' := [(5, .int (iI k)), (0, .ref b0), (1, .ref (ad 0)), (2, .ref (adm 0)), (3, .ref (ad 60)), (4, .int (iI (i : Int)))]) hx hb dL_law_727 hl (by decide) rfl (fun ls hl => ?_)
  refine lv_aload_n hx hb dL_law_729 rfl (lv_at hl 3 rfl) ?_
  refine lv_aload_n hx hb dL_law_730 rfl (lv_at hl 1 rfl) ?_
  refine lv_iload hx hb dL_law_731 (lv_at hl 5 rfl) ?_
  refine zi_const hx hb dL_law_733 ?_
  refine zi_add hx hb dL_law_734 ?_
  refine zsld hx hb hX hbl hbA hS1 (j := i + 1) (by omega) (by omega) hL dL_law_735 ?_
  refine zcalliN hM (va_runV (As := [.int (iI (xI xs (i + 1)))]) (rest := []) ⟨hx, hb, hml, hown, hts⟩ (c_X2_cancel l D cy AM adm mi ma H1 (xI xs (i + 1)) hm1 (xI_z xs (i + 1)) hR.1) (cwV 1 hts gL_law_X2_cancel rfl rfl rfl (by decide +kernel) ⟨(Nat.le_of_ble_eq_true rfl), (Nat.le_of_ble_eq_true rfl)⟩) (zPVm hM hE hS1 hm1 (ci := 2) (k0 := 0) rfl mE_0) rfl rfl hl.1 rfl (lv_room (Nat.le_of_ble_eq_true rfl)) dL_law_736 ⟨hc, hs⟩) hS1 (fun z H2 locs2 hz hq hz2 hk2 hS2 => ?_)
  obtain ⟨c2, mi2, mb, hm2, hmi, hF⟩ : ∃ (c2 : Int) (mi2 : Nat → Int) (mb : Nat → Nat → Int), zW D AM adm (mE cy adm mi2 mb) H2 ∧ mi2 0 = c2 ∧ (UR mi ma (if isP ma (xI xs (i + 1)) then 0 else 1) (fun z mi2 mb => mi2 = va_up mi 0 0 ∧ mb = va_up ma 7 (va_up (ma 7) (xI xs (i + 1)).toNat 0) ∧ z = ma 10 (xI xs (i + 1)).toNat)) z c2 mi2 mb := by
    obtain ⟨c2, mb, hm2, hc2, hh⟩ := hq
    rcases hh with ⟨h1, h2⟩ | ⟨h1, h2, h3⟩
    · exact ⟨c2, _, mb, hm2, up_same _ _ _, hc2, Or.inl ⟨h1, rfl, h2⟩⟩
    · exact ⟨c2, _, mb, hm2, up_same _ _ _, hc2, Or.inr ⟨h1, by rw [h1], h3, h2⟩⟩
  obtain ⟨hek, hR2, hans⟩ := hG _ _ _ _ hF
  have hw2 := hw1.kept hk2 (fun k v hk hB => hYM _ (hw1.1 k v hk).2.2 hB)
  have hI2 : LI D cy AY AM n0 (ad 0) (adm 0) (ad 60) H2 := ⟨by omega, ad2, adm, mi2, mb, ya2, yi2, pr2, fo2, hx0, rfl, ho0, hw2, hm2, hR2⟩
  refine lv_istore (lv' := [(6, .int (iI z)), (5, .int (iI k)), (0, .ref b0), (1, .ref (ad 0)), (2, .ref (adm 0)), (3, .ref (ad 60)), (4, .int (iI (i : Int)))]) hx hb dL_law_739 hl (by decide) rfl (fun ls hl => ?_)
  refine lv_aload_n hx hb dL_law_741 rfl (lv_at hl 4 rfl) ?_
  refine zcalliN hM (va_runV (As := []) (rest := []) ⟨hx, hb, hml, hown, hts⟩ (c_X2_thrown l D cy AM adm mi2 mb H2 hm2 (by rw [hmi, hek]; exact hk)) (cwV 0 hts gL_law_X2_thrown rfl rfl rfl (by decide +kernel) ⟨(Nat.le_of_ble_eq_true rfl), (Nat.le_of_ble_eq_true rfl)⟩) (zPVm hM hE hS2 hm2 (ci := 2) (k0 := 0) rfl mE_0) rfl rfl hl.1 rfl (lv_room (Nat.le_of_ble_eq_true rfl)) dL_law_742 ⟨hc, hs⟩) hS2 (fun z3 H3 locs3 hz3 hq3 hzz3 hk3 hS3 => ?_)
  obtain ⟨hH3, hq3⟩ := hq3
  rw [hH3] at hS3 ⊢
  have hz3k : z3 = k := hq3.trans (hmi.trans hek)
  refine lv_iload hx hb dL_law_745 (lv_at hl 1 rfl) ?_
  refine zc_eq (tgt := 752) hx hb dL_law_747 (by decide) hz3 hk (fun c_1 => ?_) (fun c_1 => absurd hz3k c_1)
  have fin : W p l e room_1 s m #[Value.ref b0] below meth c H2 locs3 (cells + 3 + 0 + 0) (slots + 21 + 0 + 0) Q (F0 m 769 ls []) := by
    refine lv_goto (tgt := 1400) hx hb dL_law_769 (by decide) ?_
    exact W.widen (k := cells + 3) (n := slots + 21) (by omega) (by omega) (kk _ _ _ hS3 hI2 (lv_sub hl [2, 3, 4, 5, 6] rfl))
  refine lv_iload hx hb dL_law_752 (lv_at hl 1 rfl) ?_
  refine zf_ne (tgt := 769) hx hb dL_law_754 (by decide) hk (fun _ => fin) (fun c_2 => ?_)
  refine lv_aload_n hx hb dL_law_757 rfl (lv_at hl 5 rfl) ?_
  refine zi_const hx hb dL_law_758 ?_
  refine zlald hx hb hE hw2 ho0 dL_law_759 ?_
  refine lv_iload hx hb dL_law_760 (lv_at hl 0 rfl) ?_
  refine lv_i2l hx hb dL_law_762 rfl ?_
  refine W.lcmp hx hb dL_law_763 ?_
  obtain ⟨r9, h90, h91⟩ := zlcmp (fo2 0) ((iI z).toInt64)
  rw [h91]
  have h92 : r9 = 0 := by
    rcases h90 with ⟨h, -⟩ | ⟨-, h⟩
    · exact h
    · exact absurd (hans c_2) h
  exact zf_eq (tgt := 769) hx hb dL_law_764 (by decide) (by rw [h92]; decide) (fun _ => fin) (fun c_3 => absurd h92 c_3)

set_option maxHeartbeats 4000000 in
set_option maxRecDepth 100000 in
theorem k_delay {p : Program} {l : Launch} {e : Env} {s : State} {m : MethodId} {below : List Frame} {meth : Method} {c : Code} {b0 L : Nat} {xs : Nat → Int32} (hL : L ≤ 2560) (hX : va_X b0 L xs s s.heap) (hbl : b0 < s.heap.size) {D : va_G} {cy : Nat → ClassId} {A0 AY AM : Nat → Prop} (hbA : ¬ A0 b0) (hC : LC p l s m c b0 D cy A0 AY) (hM : ∀ q, AM q → A0 q) (hYM : ∀ q, AY q → ¬ AM q) {n0 x0 m0 o0 : Nat} (hAf : ∀ q, n0 ≤ q → AY q) {H : Heap} {locs : List Loc} {cells slots : Nat} {Q : State → Prop} {ls : Array Slot} (hS : va_S A0 s.heap H locs) (hI : LI D cy AY AM n0 x0 m0 o0 H) (hc : cells + 3 ≤ room_1.cells) (hs : slots + 21 ≤ room_1.slots) {i : Nat} (hi : i + 4 < L) (hl : lv_has ls 7 (lvB b0 x0 m0 o0 i))
    (kk : ∀ (H1 : Heap) (locs1 : List Loc) (ls1 : Array Slot), va_S A0 s.heap H1 locs1 → LI D cy AY AM n0 x0 m0 o0 H1 → lv_has ls1 7 (lvB b0 x0 m0 o0 i) → W p l e room_1 s m #[Value.ref b0] below meth c H1 locs1 (cells + 3) (slots + 21) Q (F0 m 1400 ls1 [])) :
    W p l e room_1 s m #[Value.ref b0] below meth c H locs cells slots Q (F0 m 772 ls []) := by
  obtain ⟨⟨hx, hb, hml, hown, hts⟩, hlf, hE, hY⟩ := id hC
  obtain ⟨hn0, ad, adm, mi, ma, ya, yi, pr, fo, rfl, rfl, rfl, hw, hm, hR⟩ := hI
  have hAf2 : ∀ q, H.size ≤ q → AY q := fun q hq => hAf q (Nat.le_trans hn0 hq)
  have hl : lv_has ls 7 [(0, .ref b0), (1, .ref (ad 0)), (2, .ref (adm 0)), (3, .ref (ad 60)), (4, .int (iI (i : Int)))] := hl
  refine lv_aload_n hx hb dL_law_772 rfl (lv_at hl 1 rfl) ?_
  refine lv_aload_n hx hb dL_law_773 rfl (lv_at hl 0 rfl) ?_
  refine lv_iload hx hb dL_law_774 (lv_at hl 4 rfl) ?_
  refine zi_const hx hb dL_law_776 ?_
  refine zi_add hx hb dL_law_777 ?_
  refine zsld hx hb hX hbl hbA hS (j := i + 1) (by omega) (by omega) hL dL_law_778 ?_
  refine lv_aload_n hx hb dL_law_779 rfl (lv_at hl 0 rfl) ?_
  refine lv_iload hx hb dL_law_780 (lv_at hl 4 rfl) ?_
  refine zi_const hx hb dL_law_782 ?_
  refine zi_add hx hb dL_law_783 ?_
  refine zsld hx hb hX hbl hbA hS (j := i + 2) (by omega) (by omega) hL dL_law_784 ?_
  refine lv_aload_n hx hb dL_law_785 rfl (lv_at hl 0 rfl) ?_
  refine lv_iload hx hb dL_law_786 (lv_at hl 4 rfl) ?_
  refine zi_const hx hb dL_law_788 ?_
  refine zi_add hx hb dL_law_789 ?_
  refine zsld hx hb hX hbl hbA hS (j := i + 3) (by omega) (by omega) hL dL_law_790 ?_
  refine lv_aload_n hx hb dL_law_791 rfl (lv_at hl 3 rfl) ?_
  refine s_delay hC hS hl.1 hc hs hw hR hAf2 (xI xs (i + 1)) (xI xs (i + 2)) (xI xs (i + 3)) (xI_z xs (i + 1)) (xI_z xs (i + 2)) (xI_z xs (i + 3)) dL_law_792 (fun k H1 locs1 hk hG hz1 hk1 hS1 => ?_)
  obtain ⟨ad2, ya2, yi2, pr2, fo2, hx0, ho0, hw1, hG⟩ := hG
  have hm1 := hm.kept hk1 (fun k v hk hB => hYM _ hB (hm.1 k v hk).2.2)
  refine lv_istore (lv' := [(5, .int (iI k)), (0, .ref b0), (1, .ref (ad 0)), (2, .ref (adm 0)), (3, .ref (ad 60)), (4, .int (iI (i : Int)))]) hx hb dL_law_795 hl (by decide) rfl (fun ls hl => ?_)
  refine lv_aload_n hx hb dL_law_797 rfl (lv_at hl 3 rfl) ?_
  refine lv_aload_n hx hb dL_law_798 rfl (lv_at hl 1 rfl) ?_
  refine lv_iload hx hb dL_law_799 (lv_at hl 5 rfl) ?_
  refine zi_const hx hb dL_law_801 ?_
  refine zi_add hx hb dL_law_802 ?_
  refine zsld hx hb hX hbl hbA hS1 (j := i + 1) (by omega) (by omega) hL dL_law_803 ?_
  refine lv_aload_n hx hb dL_law_804 rfl (lv_at hl 1 rfl) ?_
  refine lv_iload hx hb dL_law_805 (lv_at hl 5 rfl) ?_
  refine zi_const hx hb dL_law_807 ?_
  refine zi_add hx hb dL_law_808 ?_
  refine zsld hx hb hX hbl hbA hS1 (j := i + 2) (by omega) (by omega) hL dL_law_809 ?_
  refine lv_aload_n hx hb dL_law_810 rfl (lv_at hl 1 rfl) ?_
  refine lv_iload hx hb dL_law_811 (lv_at hl 5 rfl) ?_
  refine zi_const hx hb dL_law_813 ?_
  refine zi_add hx hb dL_law_814 ?_
  refine zsld hx hb hX hbl hbA hS1 (j := i + 3) (by omega) (by omega) hL dL_law_815 ?_
  refine zcalliN hM (va_runV (As := [.int (iI (xI xs (i + 1))), .int (iI (xI xs (i + 2))), .int (iI (xI xs (i + 3)))]) (rest := []) ⟨hx, hb, hml, hown, hts⟩ (c_X2_delay l D cy AM adm mi ma H1 (xI xs (i + 1)) (xI xs (i + 2)) (xI xs (i + 3)) hm1 (xI_z xs (i + 1)) (xI_z xs (i + 2)) (xI_z xs (i + 3)) hR.1) (cwV 3 hts gL_law_X2_delay rfl rfl rfl (by decide +kernel) ⟨(Nat.le_of_ble_eq_true rfl), (Nat.le_of_ble_eq_true rfl)⟩) (zPVm hM hE hS1 hm1 (ci := 2) (k0 := 0) rfl mE_0) rfl rfl hl.1 rfl (lv_room (Nat.le_of_ble_eq_true rfl)) dL_law_816 ⟨hc, hs⟩) hS1 (fun z H2 locs2 hz hq hz2 hk2 hS2 => ?_)
  obtain ⟨c2, mi2, mb, hm2, hmi, hF⟩ : ∃ (c2 : Int) (mi2 : Nat → Int) (mb : Nat → Nat → Int), zW D AM adm (mE cy adm mi2 mb) H2 ∧ mi2 0 = c2 ∧ (UR mi ma (if isP ma (xI xs (i + 1)) then (if (0 ≤ (xI xs (i + 2)) ∧ (xI xs (i + 2)) ≤ ma 9 (xI xs (i + 1)).toNat - 1) ∧ (1 ≤ (xI xs (i + 3)) ∧ (xI xs (i + 3)) ≤ 9) then (if ma 12 (xI xs (i + 1)).toNat = 4 then 3 else 0) else 2) else 1) (fun z mi2 mb => mi2 = va_up mi 0 0 ∧ dlR (xI xs (i + 1)).toNat (xI xs (i + 2)) (xI xs (i + 3)) ma mb ∧ z = ma 12 (xI xs (i + 1)).toNat + 1)) z c2 mi2 mb := by
    obtain ⟨c2, mb, hm2, hc2, hh⟩ := hq
    rcases hh with ⟨h1, h2⟩ | ⟨h1, h2, h3⟩
    · exact ⟨c2, _, mb, hm2, up_same _ _ _, hc2, Or.inl ⟨h1, rfl, h2⟩⟩
    · exact ⟨c2, _, mb, hm2, up_same _ _ _, hc2, Or.inr ⟨h1, by rw [h1], h3, h2⟩⟩
  obtain ⟨hek, hR2, hans⟩ := hG _ _ _ _ hF
  have hw2 := hw1.kept hk2 (fun k v hk hB => hYM _ (hw1.1 k v hk).2.2 hB)
  have hI2 : LI D cy AY AM n0 (ad 0) (adm 0) (ad 60) H2 := ⟨by omega, ad2, adm, mi2, mb, ya2, yi2, pr2, fo2, hx0, rfl, ho0, hw2, hm2, hR2⟩
  refine lv_istore (lv' := [(6, .int (iI z)), (5, .int (iI k)), (0, .ref b0), (1, .ref (ad 0)), (2, .ref (adm 0)), (3, .ref (ad 60)), (4, .int (iI (i : Int)))]) hx hb dL_law_819 hl (by decide) rfl (fun ls hl => ?_)
  refine lv_aload_n hx hb dL_law_821 rfl (lv_at hl 4 rfl) ?_
  refine zcalliN hM (va_runV (As := []) (rest := []) ⟨hx, hb, hml, hown, hts⟩ (c_X2_thrown l D cy AM adm mi2 mb H2 hm2 (by rw [hmi, hek]; exact hk)) (cwV 0 hts gL_law_X2_thrown rfl rfl rfl (by decide +kernel) ⟨(Nat.le_of_ble_eq_true rfl), (Nat.le_of_ble_eq_true rfl)⟩) (zPVm hM hE hS2 hm2 (ci := 2) (k0 := 0) rfl mE_0) rfl rfl hl.1 rfl (lv_room (Nat.le_of_ble_eq_true rfl)) dL_law_822 ⟨hc, hs⟩) hS2 (fun z3 H3 locs3 hz3 hq3 hzz3 hk3 hS3 => ?_)
  obtain ⟨hH3, hq3⟩ := hq3
  rw [hH3] at hS3 ⊢
  have hz3k : z3 = k := hq3.trans (hmi.trans hek)
  refine lv_iload hx hb dL_law_825 (lv_at hl 1 rfl) ?_
  refine zc_eq (tgt := 832) hx hb dL_law_827 (by decide) hz3 hk (fun c_1 => ?_) (fun c_1 => absurd hz3k c_1)
  have fin : W p l e room_1 s m #[Value.ref b0] below meth c H2 locs3 (cells + 3 + 0 + 0) (slots + 21 + 0 + 0) Q (F0 m 849 ls []) := by
    refine lv_goto (tgt := 1400) hx hb dL_law_849 (by decide) ?_
    exact W.widen (k := cells + 3) (n := slots + 21) (by omega) (by omega) (kk _ _ _ hS3 hI2 (lv_sub hl [2, 3, 4, 5, 6] rfl))
  refine lv_iload hx hb dL_law_832 (lv_at hl 1 rfl) ?_
  refine zf_ne (tgt := 849) hx hb dL_law_834 (by decide) hk (fun _ => fin) (fun c_2 => ?_)
  refine lv_aload_n hx hb dL_law_837 rfl (lv_at hl 5 rfl) ?_
  refine zi_const hx hb dL_law_838 ?_
  refine zlald hx hb hE hw2 ho0 dL_law_839 ?_
  refine lv_iload hx hb dL_law_840 (lv_at hl 0 rfl) ?_
  refine lv_i2l hx hb dL_law_842 rfl ?_
  refine W.lcmp hx hb dL_law_843 ?_
  obtain ⟨r9, h90, h91⟩ := zlcmp (fo2 0) ((iI z).toInt64)
  rw [h91]
  have h92 : r9 = 0 := by
    rcases h90 with ⟨h, -⟩ | ⟨-, h⟩
    · exact h
    · exact absurd (hans c_2) h
  exact zf_eq (tgt := 849) hx hb dL_law_844 (by decide) (by rw [h92]; decide) (fun _ => fin) (fun c_3 => absurd h92 c_3)

set_option maxHeartbeats 4000000 in
set_option maxRecDepth 100000 in
theorem k_pours {p : Program} {l : Launch} {e : Env} {s : State} {m : MethodId} {below : List Frame} {meth : Method} {c : Code} {b0 L : Nat} {xs : Nat → Int32} (hL : L ≤ 2560) (hX : va_X b0 L xs s s.heap) (hbl : b0 < s.heap.size) {D : va_G} {cy : Nat → ClassId} {A0 AY AM : Nat → Prop} (hbA : ¬ A0 b0) (hC : LC p l s m c b0 D cy A0 AY) (hM : ∀ q, AM q → A0 q) (hYM : ∀ q, AY q → ¬ AM q) {n0 x0 m0 o0 : Nat} (hAf : ∀ q, n0 ≤ q → AY q) {H : Heap} {locs : List Loc} {cells slots : Nat} {Q : State → Prop} {ls : Array Slot} (hS : va_S A0 s.heap H locs) (hI : LI D cy AY AM n0 x0 m0 o0 H) (hc : cells + 3 ≤ room_1.cells) (hs : slots + 21 ≤ room_1.slots) {i : Nat} (hi : i + 4 < L) (hl : lv_has ls 7 (lvB b0 x0 m0 o0 i))
    (kk : ∀ (H1 : Heap) (locs1 : List Loc) (ls1 : Array Slot), va_S A0 s.heap H1 locs1 → LI D cy AY AM n0 x0 m0 o0 H1 → lv_has ls1 7 (lvB b0 x0 m0 o0 i) → W p l e room_1 s m #[Value.ref b0] below meth c H1 locs1 (cells + 3) (slots + 21) Q (F0 m 1400 ls1 [])) :
    W p l e room_1 s m #[Value.ref b0] below meth c H locs cells slots Q (F0 m 852 ls []) := by
  obtain ⟨⟨hx, hb, hml, hown, hts⟩, hlf, hE, hY⟩ := id hC
  obtain ⟨hn0, ad, adm, mi, ma, ya, yi, pr, fo, rfl, rfl, rfl, hw, hm, hR⟩ := hI
  have hAf2 : ∀ q, H.size ≤ q → AY q := fun q hq => hAf q (Nat.le_trans hn0 hq)
  have hl : lv_has ls 7 [(0, .ref b0), (1, .ref (ad 0)), (2, .ref (adm 0)), (3, .ref (ad 60)), (4, .int (iI (i : Int)))] := hl
  refine lv_aload_n hx hb dL_law_852 rfl (lv_at hl 1 rfl) ?_
  refine s_pours hC hS hl.1 hc hs hw hR hAf2 dL_law_853 (fun k H1 locs1 hk hG hz1 hk1 hS1 => ?_)
  obtain ⟨ad2, ya2, yi2, pr2, fo2, hx0, ho0, hw1, hG⟩ := hG
  have hm1 := hm.kept hk1 (fun k v hk hB => hYM _ hB (hm.1 k v hk).2.2)
  refine lv_aload_n hx hb dL_law_856 rfl (lv_at hl 2 rfl) ?_
  refine zcalliN hM (va_runV (As := []) (rest := [.int (iI k)]) ⟨hx, hb, hml, hown, hts⟩ (c_X2_pours l D cy AM adm mi ma H1  hm1  hR.1.2.2.1) (cwV 0 hts gL_law_X2_pours rfl rfl rfl (by decide +kernel) ⟨(Nat.le_of_ble_eq_true rfl), (Nat.le_of_ble_eq_true rfl)⟩) (zPVm hM hE hS1 hm1 (ci := 2) (k0 := 0) rfl mE_0) rfl rfl hl.1 rfl (lv_room (Nat.le_of_ble_eq_true rfl)) dL_law_857 ⟨hc, hs⟩) hS1 (fun z H2 locs2 hz hq hz2 hk2 hS2 => ?_)
  obtain ⟨hm2, hans⟩ := hq
  obtain ⟨hR2, hzk⟩ := hG z 0 _ _ ⟨rfl, sU_r, hans⟩
  have hw2 := hw1.kept hk2 (fun k v hk hB => hYM _ (hw1.1 k v hk).2.2 hB)
  have hI2 : LI D cy AY AM n0 (ad 0) (adm 0) (ad 60) H2 := ⟨by omega, ad2, adm, _, _, ya2, yi2, pr2, fo2, hx0, rfl, ho0, hw2, hm2, hR2⟩
  refine zc_eq (tgt := 1400) hx hb dL_law_860 (by decide) hk hz (fun c_1 => ?_) (fun c_1 => absurd hzk.symm c_1)
  exact W.widen (k := cells + 3) (n := slots + 21) (by omega) (by omega) (kk _ _ _ hS2 hI2 (lv_sub hl [0, 1, 2, 3, 4] rfl))

set_option maxHeartbeats 4000000 in
set_option maxRecDepth 100000 in
theorem k_endOf {p : Program} {l : Launch} {e : Env} {s : State} {m : MethodId} {below : List Frame} {meth : Method} {c : Code} {b0 L : Nat} {xs : Nat → Int32} (hL : L ≤ 2560) (hX : va_X b0 L xs s s.heap) (hbl : b0 < s.heap.size) {D : va_G} {cy : Nat → ClassId} {A0 AY AM : Nat → Prop} (hbA : ¬ A0 b0) (hC : LC p l s m c b0 D cy A0 AY) (hM : ∀ q, AM q → A0 q) (hYM : ∀ q, AY q → ¬ AM q) {n0 x0 m0 o0 : Nat} (hAf : ∀ q, n0 ≤ q → AY q) {H : Heap} {locs : List Loc} {cells slots : Nat} {Q : State → Prop} {ls : Array Slot} (hS : va_S A0 s.heap H locs) (hI : LI D cy AY AM n0 x0 m0 o0 H) (hc : cells + 3 ≤ room_1.cells) (hs : slots + 21 ≤ room_1.slots) {i : Nat} (hi : i + 4 < L) (hl : lv_has ls 7 (lvB b0 x0 m0 o0 i))
    (kk : ∀ (H1 : Heap) (locs1 : List Loc) (ls1 : Array Slot), va_S A0 s.heap H1 locs1 → LI D cy AY AM n0 x0 m0 o0 H1 → lv_has ls1 7 (lvB b0 x0 m0 o0 i) → W p l e room_1 s m #[Value.ref b0] below meth c H1 locs1 (cells + 3) (slots + 21) Q (F0 m 1400 ls1 [])) :
    W p l e room_1 s m #[Value.ref b0] below meth c H locs cells slots Q (F0 m 865 ls []) := by
  obtain ⟨⟨hx, hb, hml, hown, hts⟩, hlf, hE, hY⟩ := id hC
  obtain ⟨hn0, ad, adm, mi, ma, ya, yi, pr, fo, rfl, rfl, rfl, hw, hm, hR⟩ := hI
  have hAf2 : ∀ q, H.size ≤ q → AY q := fun q hq => hAf q (Nat.le_trans hn0 hq)
  have hl : lv_has ls 7 [(0, .ref b0), (1, .ref (ad 0)), (2, .ref (adm 0)), (3, .ref (ad 60)), (4, .int (iI (i : Int)))] := hl
  refine lv_aload_n hx hb dL_law_865 rfl (lv_at hl 1 rfl) ?_
  refine lv_aload_n hx hb dL_law_866 rfl (lv_at hl 0 rfl) ?_
  refine lv_iload hx hb dL_law_867 (lv_at hl 4 rfl) ?_
  refine zi_const hx hb dL_law_869 ?_
  refine zi_add hx hb dL_law_870 ?_
  refine zsld hx hb hX hbl hbA hS (j := i + 1) (by omega) (by omega) hL dL_law_871 ?_
  refine lv_aload_n hx hb dL_law_872 rfl (lv_at hl 3 rfl) ?_
  refine s_endOf hC hS hl.1 hc hs hw hR hAf2 (xI xs (i + 1)) (xI_z xs (i + 1)) dL_law_873 (fun k H1 locs1 hk hG hz1 hk1 hS1 => ?_)
  obtain ⟨ad2, ya2, yi2, pr2, fo2, hx0, ho0, hw1, hG⟩ := hG
  have hm1 := hm.kept hk1 (fun k v hk hB => hYM _ hB (hm.1 k v hk).2.2)
  refine lv_istore (lv' := [(5, .int (iI k)), (0, .ref b0), (1, .ref (ad 0)), (2, .ref (adm 0)), (3, .ref (ad 60)), (4, .int (iI (i : Int)))]) hx hb dL_law_876 hl (by decide) rfl (fun ls hl => ?_)
  refine lv_aload_n hx hb dL_law_878 rfl (lv_at hl 3 rfl) ?_
  refine lv_aload_n hx hb dL_law_879 rfl (lv_at hl 1 rfl) ?_
  refine lv_iload hx hb dL_law_880 (lv_at hl 5 rfl) ?_
  refine zi_const hx hb dL_law_882 ?_
  refine zi_add hx hb dL_law_883 ?_
  refine zsld hx hb hX hbl hbA hS1 (j := i + 1) (by omega) (by omega) hL dL_law_884 ?_
  refine zcalliN hM (va_runV (As := [.int (iI (xI xs (i + 1)))]) (rest := []) ⟨hx, hb, hml, hown, hts⟩ (c_X2_endOf l D cy AM adm mi ma H1 (xI xs (i + 1)) hm1 (xI_z xs (i + 1)) hR.1) (cwV 1 hts gL_law_X2_endOf rfl rfl rfl (by decide +kernel) ⟨(Nat.le_of_ble_eq_true rfl), (Nat.le_of_ble_eq_true rfl)⟩) (zPVm hM hE hS1 hm1 (ci := 2) (k0 := 0) rfl mE_0) rfl rfl hl.1 rfl (lv_room (Nat.le_of_ble_eq_true rfl)) dL_law_885 ⟨hc, hs⟩) hS1 (fun z H2 locs2 hz hq hz2 hk2 hS2 => ?_)
  obtain ⟨c2, mi2, mb, hm2, hmi, hF⟩ : ∃ (c2 : Int) (mi2 : Nat → Int) (mb : Nat → Nat → Int), zW D AM adm (mE cy adm mi2 mb) H2 ∧ mi2 0 = c2 ∧ (QR mi ma (if isP ma (xI xs (i + 1)) then 0 else 1) (fun z => z = endM mi ma (xI xs (i + 1)).toNat)) z c2 mi2 mb := by
    obtain ⟨c2, mb, hm2, hsU, hc2, hans⟩ := hq
    exact ⟨c2, _, mb, hm2, up_same _ _ _, rfl, hsU, hc2, hans⟩
  obtain ⟨hek, hR2, hans⟩ := hG _ _ _ _ hF
  have hw2 := hw1.kept hk2 (fun k v hk hB => hYM _ (hw1.1 k v hk).2.2 hB)
  have hI2 : LI D cy AY AM n0 (ad 0) (adm 0) (ad 60) H2 := ⟨by omega, ad2, adm, mi2, mb, ya2, yi2, pr2, fo2, hx0, rfl, ho0, hw2, hm2, hR2⟩
  refine lv_istore (lv' := [(6, .int (iI z)), (5, .int (iI k)), (0, .ref b0), (1, .ref (ad 0)), (2, .ref (adm 0)), (3, .ref (ad 60)), (4, .int (iI (i : Int)))]) hx hb dL_law_888 hl (by decide) rfl (fun ls hl => ?_)
  refine lv_aload_n hx hb dL_law_890 rfl (lv_at hl 4 rfl) ?_
  refine zcalliN hM (va_runV (As := []) (rest := []) ⟨hx, hb, hml, hown, hts⟩ (c_X2_thrown l D cy AM adm mi2 mb H2 hm2 (by rw [hmi, hek]; exact hk)) (cwV 0 hts gL_law_X2_thrown rfl rfl rfl (by decide +kernel) ⟨(Nat.le_of_ble_eq_true rfl), (Nat.le_of_ble_eq_true rfl)⟩) (zPVm hM hE hS2 hm2 (ci := 2) (k0 := 0) rfl mE_0) rfl rfl hl.1 rfl (lv_room (Nat.le_of_ble_eq_true rfl)) dL_law_891 ⟨hc, hs⟩) hS2 (fun z3 H3 locs3 hz3 hq3 hzz3 hk3 hS3 => ?_)
  obtain ⟨hH3, hq3⟩ := hq3
  rw [hH3] at hS3 ⊢
  have hz3k : z3 = k := hq3.trans (hmi.trans hek)
  refine lv_iload hx hb dL_law_894 (lv_at hl 1 rfl) ?_
  refine zc_eq (tgt := 901) hx hb dL_law_896 (by decide) hz3 hk (fun c_1 => ?_) (fun c_1 => absurd hz3k c_1)
  have fin : W p l e room_1 s m #[Value.ref b0] below meth c H2 locs3 (cells + 3 + 0 + 0) (slots + 21 + 0 + 0) Q (F0 m 918 ls []) := by
    refine lv_goto (tgt := 1400) hx hb dL_law_918 (by decide) ?_
    exact W.widen (k := cells + 3) (n := slots + 21) (by omega) (by omega) (kk _ _ _ hS3 hI2 (lv_sub hl [2, 3, 4, 5, 6] rfl))
  refine lv_iload hx hb dL_law_901 (lv_at hl 1 rfl) ?_
  refine zf_ne (tgt := 918) hx hb dL_law_903 (by decide) hk (fun _ => fin) (fun c_2 => ?_)
  refine lv_aload_n hx hb dL_law_906 rfl (lv_at hl 5 rfl) ?_
  refine zi_const hx hb dL_law_907 ?_
  refine zlald hx hb hE hw2 ho0 dL_law_908 ?_
  refine lv_iload hx hb dL_law_909 (lv_at hl 0 rfl) ?_
  refine lv_i2l hx hb dL_law_911 rfl ?_
  refine W.lcmp hx hb dL_law_912 ?_
  obtain ⟨r9, h90, h91⟩ := zlcmp (fo2 0) ((iI z).toInt64)
  rw [h91]
  have h92 : r9 = 0 := by
    rcases h90 with ⟨h, -⟩ | ⟨-, h⟩
    · exact h
    · exact absurd (hans c_2) h
  exact zf_eq (tgt := 918) hx hb dL_law_913 (by decide) (by rw [h92]; decide) (fun _ => fin) (fun c_3 => absurd h92 c_3)

set_option maxHeartbeats 4000000 in
set_option maxRecDepth 100000 in
theorem k_coldJoints {p : Program} {l : Launch} {e : Env} {s : State} {m : MethodId} {below : List Frame} {meth : Method} {c : Code} {b0 L : Nat} {xs : Nat → Int32} (hL : L ≤ 2560) (hX : va_X b0 L xs s s.heap) (hbl : b0 < s.heap.size) {D : va_G} {cy : Nat → ClassId} {A0 AY AM : Nat → Prop} (hbA : ¬ A0 b0) (hC : LC p l s m c b0 D cy A0 AY) (hM : ∀ q, AM q → A0 q) (hYM : ∀ q, AY q → ¬ AM q) {n0 x0 m0 o0 : Nat} (hAf : ∀ q, n0 ≤ q → AY q) {H : Heap} {locs : List Loc} {cells slots : Nat} {Q : State → Prop} {ls : Array Slot} (hS : va_S A0 s.heap H locs) (hI : LI D cy AY AM n0 x0 m0 o0 H) (hc : cells + 3 ≤ room_1.cells) (hs : slots + 21 ≤ room_1.slots) {i : Nat} (hi : i + 4 < L) (hl : lv_has ls 7 (lvB b0 x0 m0 o0 i))
    (kk : ∀ (H1 : Heap) (locs1 : List Loc) (ls1 : Array Slot), va_S A0 s.heap H1 locs1 → LI D cy AY AM n0 x0 m0 o0 H1 → lv_has ls1 7 (lvB b0 x0 m0 o0 i) → W p l e room_1 s m #[Value.ref b0] below meth c H1 locs1 (cells + 3) (slots + 21) Q (F0 m 1400 ls1 [])) :
    W p l e room_1 s m #[Value.ref b0] below meth c H locs cells slots Q (F0 m 921 ls []) := by
  obtain ⟨⟨hx, hb, hml, hown, hts⟩, hlf, hE, hY⟩ := id hC
  obtain ⟨hn0, ad, adm, mi, ma, ya, yi, pr, fo, rfl, rfl, rfl, hw, hm, hR⟩ := hI
  have hAf2 : ∀ q, H.size ≤ q → AY q := fun q hq => hAf q (Nat.le_trans hn0 hq)
  have hl : lv_has ls 7 [(0, .ref b0), (1, .ref (ad 0)), (2, .ref (adm 0)), (3, .ref (ad 60)), (4, .int (iI (i : Int)))] := hl
  refine lv_aload_n hx hb dL_law_921 rfl (lv_at hl 1 rfl) ?_
  refine lv_aload_n hx hb dL_law_922 rfl (lv_at hl 0 rfl) ?_
  refine lv_iload hx hb dL_law_923 (lv_at hl 4 rfl) ?_
  refine zi_const hx hb dL_law_925 ?_
  refine zi_add hx hb dL_law_926 ?_
  refine zsld hx hb hX hbl hbA hS (j := i + 1) (by omega) (by omega) hL dL_law_927 ?_
  refine lv_aload_n hx hb dL_law_928 rfl (lv_at hl 3 rfl) ?_
  refine s_coldJoints hC hS hl.1 hc hs hw hR hAf2 (xI xs (i + 1)) (xI_z xs (i + 1)) dL_law_929 (fun k H1 locs1 hk hG hz1 hk1 hS1 => ?_)
  obtain ⟨ad2, ya2, yi2, pr2, fo2, hx0, ho0, hw1, hG⟩ := hG
  have hm1 := hm.kept hk1 (fun k v hk hB => hYM _ hB (hm.1 k v hk).2.2)
  refine lv_istore (lv' := [(5, .int (iI k)), (0, .ref b0), (1, .ref (ad 0)), (2, .ref (adm 0)), (3, .ref (ad 60)), (4, .int (iI (i : Int)))]) hx hb dL_law_932 hl (by decide) rfl (fun ls hl => ?_)
  refine lv_aload_n hx hb dL_law_934 rfl (lv_at hl 3 rfl) ?_
  refine lv_aload_n hx hb dL_law_935 rfl (lv_at hl 1 rfl) ?_
  refine lv_iload hx hb dL_law_936 (lv_at hl 5 rfl) ?_
  refine zi_const hx hb dL_law_938 ?_
  refine zi_add hx hb dL_law_939 ?_
  refine zsld hx hb hX hbl hbA hS1 (j := i + 1) (by omega) (by omega) hL dL_law_940 ?_
  refine zcalliN hM (va_runV (As := [.int (iI (xI xs (i + 1)))]) (rest := []) ⟨hx, hb, hml, hown, hts⟩ (c_X2_coldJoints l D cy AM adm mi ma H1 (xI xs (i + 1)) hm1 (xI_z xs (i + 1)) hR.1) (cwV 1 hts gL_law_X2_coldJoints rfl rfl rfl (by decide +kernel) ⟨(Nat.le_of_ble_eq_true rfl), (Nat.le_of_ble_eq_true rfl)⟩) (zPVm hM hE hS1 hm1 (ci := 2) (k0 := 0) rfl mE_0) rfl rfl hl.1 rfl (lv_room (Nat.le_of_ble_eq_true rfl)) dL_law_941 ⟨hc, hs⟩) hS1 (fun z H2 locs2 hz hq hz2 hk2 hS2 => ?_)
  obtain ⟨c2, mi2, mb, hm2, hmi, hF⟩ : ∃ (c2 : Int) (mi2 : Nat → Int) (mb : Nat → Nat → Int), zW D AM adm (mE cy adm mi2 mb) H2 ∧ mi2 0 = c2 ∧ (QR mi ma (if isP ma (xI xs (i + 1)) then 0 else 1) (fun z => z = sl (cjF mi ma (xI xs (i + 1)).toNat) (ma 12 (xI xs (i + 1)).toNat).toNat)) z c2 mi2 mb := by
    obtain ⟨c2, mb, hm2, hsU, hc2, hans⟩ := hq
    exact ⟨c2, _, mb, hm2, up_same _ _ _, rfl, hsU, hc2, hans⟩
  obtain ⟨hek, hR2, hans⟩ := hG _ _ _ _ hF
  have hw2 := hw1.kept hk2 (fun k v hk hB => hYM _ (hw1.1 k v hk).2.2 hB)
  have hI2 : LI D cy AY AM n0 (ad 0) (adm 0) (ad 60) H2 := ⟨by omega, ad2, adm, mi2, mb, ya2, yi2, pr2, fo2, hx0, rfl, ho0, hw2, hm2, hR2⟩
  refine lv_istore (lv' := [(6, .int (iI z)), (5, .int (iI k)), (0, .ref b0), (1, .ref (ad 0)), (2, .ref (adm 0)), (3, .ref (ad 60)), (4, .int (iI (i : Int)))]) hx hb dL_law_944 hl (by decide) rfl (fun ls hl => ?_)
  refine lv_aload_n hx hb dL_law_946 rfl (lv_at hl 4 rfl) ?_
  refine zcalliN hM (va_runV (As := []) (rest := []) ⟨hx, hb, hml, hown, hts⟩ (c_X2_thrown l D cy AM adm mi2 mb H2 hm2 (by rw [hmi, hek]; exact hk)) (cwV 0 hts gL_law_X2_thrown rfl rfl rfl (by decide +kernel) ⟨(Nat.le_of_ble_eq_true rfl), (Nat.le_of_ble_eq_true rfl)⟩) (zPVm hM hE hS2 hm2 (ci := 2) (k0 := 0) rfl mE_0) rfl rfl hl.1 rfl (lv_room (Nat.le_of_ble_eq_true rfl)) dL_law_947 ⟨hc, hs⟩) hS2 (fun z3 H3 locs3 hz3 hq3 hzz3 hk3 hS3 => ?_)
  obtain ⟨hH3, hq3⟩ := hq3
  rw [hH3] at hS3 ⊢
  have hz3k : z3 = k := hq3.trans (hmi.trans hek)
  refine lv_iload hx hb dL_law_950 (lv_at hl 1 rfl) ?_
  refine zc_eq (tgt := 957) hx hb dL_law_952 (by decide) hz3 hk (fun c_1 => ?_) (fun c_1 => absurd hz3k c_1)
  have fin : W p l e room_1 s m #[Value.ref b0] below meth c H2 locs3 (cells + 3 + 0 + 0) (slots + 21 + 0 + 0) Q (F0 m 974 ls []) := by
    refine lv_goto (tgt := 1400) hx hb dL_law_974 (by decide) ?_
    exact W.widen (k := cells + 3) (n := slots + 21) (by omega) (by omega) (kk _ _ _ hS3 hI2 (lv_sub hl [2, 3, 4, 5, 6] rfl))
  refine lv_iload hx hb dL_law_957 (lv_at hl 1 rfl) ?_
  refine zf_ne (tgt := 974) hx hb dL_law_959 (by decide) hk (fun _ => fin) (fun c_2 => ?_)
  refine lv_aload_n hx hb dL_law_962 rfl (lv_at hl 5 rfl) ?_
  refine zi_const hx hb dL_law_963 ?_
  refine zlald hx hb hE hw2 ho0 dL_law_964 ?_
  refine lv_iload hx hb dL_law_965 (lv_at hl 0 rfl) ?_
  refine lv_i2l hx hb dL_law_967 rfl ?_
  refine W.lcmp hx hb dL_law_968 ?_
  obtain ⟨r9, h90, h91⟩ := zlcmp (fo2 0) ((iI z).toInt64)
  rw [h91]
  have h92 : r9 = 0 := by
    rcases h90 with ⟨h, -⟩ | ⟨-, h⟩
    · exact h
    · exact absurd (hans c_2) h
  exact zf_eq (tgt := 974) hx hb dL_law_969 (by decide) (by rw [h92]; decide) (fun _ => fin) (fun c_3 => absurd h92 c_3)

set_option maxHeartbeats 4000000 in
set_option maxRecDepth 100000 in
theorem k_struck {p : Program} {l : Launch} {e : Env} {s : State} {m : MethodId} {below : List Frame} {meth : Method} {c : Code} {b0 L : Nat} {xs : Nat → Int32} (hL : L ≤ 2560) (hX : va_X b0 L xs s s.heap) (hbl : b0 < s.heap.size) {D : va_G} {cy : Nat → ClassId} {A0 AY AM : Nat → Prop} (hbA : ¬ A0 b0) (hC : LC p l s m c b0 D cy A0 AY) (hM : ∀ q, AM q → A0 q) (hYM : ∀ q, AY q → ¬ AM q) {n0 x0 m0 o0 : Nat} (hAf : ∀ q, n0 ≤ q → AY q) {H : Heap} {locs : List Loc} {cells slots : Nat} {Q : State → Prop} {ls : Array Slot} (hS : va_S A0 s.heap H locs) (hI : LI D cy AY AM n0 x0 m0 o0 H) (hc : cells + 3 ≤ room_1.cells) (hs : slots + 21 ≤ room_1.slots) {i : Nat} (hi : i + 4 < L) (hl : lv_has ls 7 (lvB b0 x0 m0 o0 i))
    (kk : ∀ (H1 : Heap) (locs1 : List Loc) (ls1 : Array Slot), va_S A0 s.heap H1 locs1 → LI D cy AY AM n0 x0 m0 o0 H1 → lv_has ls1 7 (lvB b0 x0 m0 o0 i) → W p l e room_1 s m #[Value.ref b0] below meth c H1 locs1 (cells + 3) (slots + 21) Q (F0 m 1400 ls1 [])) :
    W p l e room_1 s m #[Value.ref b0] below meth c H locs cells slots Q (F0 m 977 ls []) := by
  obtain ⟨⟨hx, hb, hml, hown, hts⟩, hlf, hE, hY⟩ := id hC
  obtain ⟨hn0, ad, adm, mi, ma, ya, yi, pr, fo, rfl, rfl, rfl, hw, hm, hR⟩ := hI
  have hAf2 : ∀ q, H.size ≤ q → AY q := fun q hq => hAf q (Nat.le_trans hn0 hq)
  have hl : lv_has ls 7 [(0, .ref b0), (1, .ref (ad 0)), (2, .ref (adm 0)), (3, .ref (ad 60)), (4, .int (iI (i : Int)))] := hl
  refine lv_aload_n hx hb dL_law_977 rfl (lv_at hl 1 rfl) ?_
  refine lv_aload_n hx hb dL_law_978 rfl (lv_at hl 0 rfl) ?_
  refine lv_iload hx hb dL_law_979 (lv_at hl 4 rfl) ?_
  refine zi_const hx hb dL_law_981 ?_
  refine zi_add hx hb dL_law_982 ?_
  refine zsld hx hb hX hbl hbA hS (j := i + 1) (by omega) (by omega) hL dL_law_983 ?_
  refine lv_aload_n hx hb dL_law_984 rfl (lv_at hl 3 rfl) ?_
  refine s_struck hC hS hl.1 hc hs hw hR hAf2 (xI xs (i + 1)) (xI_z xs (i + 1)) dL_law_985 (fun k H1 locs1 hk hG hz1 hk1 hS1 => ?_)
  obtain ⟨ad2, ya2, yi2, pr2, fo2, hx0, ho0, hw1, hG⟩ := hG
  have hm1 := hm.kept hk1 (fun k v hk hB => hYM _ hB (hm.1 k v hk).2.2)
  refine lv_istore (lv' := [(5, .int (iI k)), (0, .ref b0), (1, .ref (ad 0)), (2, .ref (adm 0)), (3, .ref (ad 60)), (4, .int (iI (i : Int)))]) hx hb dL_law_988 hl (by decide) rfl (fun ls hl => ?_)
  refine lv_aload_n hx hb dL_law_990 rfl (lv_at hl 3 rfl) ?_
  refine lv_aload_n hx hb dL_law_991 rfl (lv_at hl 1 rfl) ?_
  refine lv_iload hx hb dL_law_992 (lv_at hl 5 rfl) ?_
  refine zi_const hx hb dL_law_994 ?_
  refine zi_add hx hb dL_law_995 ?_
  refine zsld hx hb hX hbl hbA hS1 (j := i + 1) (by omega) (by omega) hL dL_law_996 ?_
  refine zcalliN hM (va_runV (As := [.int (iI (xI xs (i + 1)))]) (rest := []) ⟨hx, hb, hml, hown, hts⟩ (c_X2_struck l D cy AM adm mi ma H1 (xI xs (i + 1)) hm1 (xI_z xs (i + 1)) hR.1) (cwV 1 hts gL_law_X2_struck rfl rfl rfl (by decide +kernel) ⟨(Nat.le_of_ble_eq_true rfl), (Nat.le_of_ble_eq_true rfl)⟩) (zPVm hM hE hS1 hm1 (ci := 2) (k0 := 0) rfl mE_0) rfl rfl hl.1 rfl (lv_room (Nat.le_of_ble_eq_true rfl)) dL_law_997 ⟨hc, hs⟩) hS1 (fun z H2 locs2 hz hq hz2 hk2 hS2 => ?_)
  obtain ⟨c2, mi2, mb, hm2, hmi, hF⟩ : ∃ (c2 : Int) (mi2 : Nat → Int) (mb : Nat → Nat → Int), zW D AM adm (mE cy adm mi2 mb) H2 ∧ mi2 0 = c2 ∧ (QR mi ma (if isP ma (xI xs (i + 1)) then 0 else 1) (fun z => z = (if kS mi ma (xI xs (i + 1)).toNat < 1000 then kS mi ma (xI xs (i + 1)).toNat else -1))) z c2 mi2 mb := by
    obtain ⟨c2, mb, hm2, hsU, hc2, hans⟩ := hq
    exact ⟨c2, _, mb, hm2, up_same _ _ _, rfl, hsU, hc2, hans⟩
  obtain ⟨hek, hR2, hans⟩ := hG _ _ _ _ hF
  have hw2 := hw1.kept hk2 (fun k v hk hB => hYM _ (hw1.1 k v hk).2.2 hB)
  have hI2 : LI D cy AY AM n0 (ad 0) (adm 0) (ad 60) H2 := ⟨by omega, ad2, adm, mi2, mb, ya2, yi2, pr2, fo2, hx0, rfl, ho0, hw2, hm2, hR2⟩
  refine lv_istore (lv' := [(6, .int (iI z)), (5, .int (iI k)), (0, .ref b0), (1, .ref (ad 0)), (2, .ref (adm 0)), (3, .ref (ad 60)), (4, .int (iI (i : Int)))]) hx hb dL_law_1000 hl (by decide) rfl (fun ls hl => ?_)
  refine lv_aload_n hx hb dL_law_1002 rfl (lv_at hl 4 rfl) ?_
  refine zcalliN hM (va_runV (As := []) (rest := []) ⟨hx, hb, hml, hown, hts⟩ (c_X2_thrown l D cy AM adm mi2 mb H2 hm2 (by rw [hmi, hek]; exact hk)) (cwV 0 hts gL_law_X2_thrown rfl rfl rfl (by decide +kernel) ⟨(Nat.le_of_ble_eq_true rfl), (Nat.le_of_ble_eq_true rfl)⟩) (zPVm hM hE hS2 hm2 (ci := 2) (k0 := 0) rfl mE_0) rfl rfl hl.1 rfl (lv_room (Nat.le_of_ble_eq_true rfl)) dL_law_1003 ⟨hc, hs⟩) hS2 (fun z3 H3 locs3 hz3 hq3 hzz3 hk3 hS3 => ?_)
  obtain ⟨hH3, hq3⟩ := hq3
  rw [hH3] at hS3 ⊢
  have hz3k : z3 = k := hq3.trans (hmi.trans hek)
  refine lv_iload hx hb dL_law_1006 (lv_at hl 1 rfl) ?_
  refine zc_eq (tgt := 1013) hx hb dL_law_1008 (by decide) hz3 hk (fun c_1 => ?_) (fun c_1 => absurd hz3k c_1)
  have fin : W p l e room_1 s m #[Value.ref b0] below meth c H2 locs3 (cells + 3 + 0 + 0) (slots + 21 + 0 + 0) Q (F0 m 1030 ls []) := by
    refine lv_goto (tgt := 1400) hx hb dL_law_1030 (by decide) ?_
    exact W.widen (k := cells + 3) (n := slots + 21) (by omega) (by omega) (kk _ _ _ hS3 hI2 (lv_sub hl [2, 3, 4, 5, 6] rfl))
  refine lv_iload hx hb dL_law_1013 (lv_at hl 1 rfl) ?_
  refine zf_ne (tgt := 1030) hx hb dL_law_1015 (by decide) hk (fun _ => fin) (fun c_2 => ?_)
  refine lv_aload_n hx hb dL_law_1018 rfl (lv_at hl 5 rfl) ?_
  refine zi_const hx hb dL_law_1019 ?_
  refine zlald hx hb hE hw2 ho0 dL_law_1020 ?_
  refine lv_iload hx hb dL_law_1021 (lv_at hl 0 rfl) ?_
  refine lv_i2l hx hb dL_law_1023 rfl ?_
  refine W.lcmp hx hb dL_law_1024 ?_
  obtain ⟨r9, h90, h91⟩ := zlcmp (fo2 0) ((iI z).toInt64)
  rw [h91]
  have h92 : r9 = 0 := by
    rcases h90 with ⟨h, -⟩ | ⟨-, h⟩
    · exact h
    · exact absurd (hans c_2) h
  exact zf_eq (tgt := 1030) hx hb dL_law_1025 (by decide) (by rw [h92]; decide) (fun _ => fin) (fun c_3 => absurd h92 c_3)

set_option maxHeartbeats 4000000 in
set_option maxRecDepth 100000 in
theorem k_freeFrom {p : Program} {l : Launch} {e : Env} {s : State} {m : MethodId} {below : List Frame} {meth : Method} {c : Code} {b0 L : Nat} {xs : Nat → Int32} (hL : L ≤ 2560) (hX : va_X b0 L xs s s.heap) (hbl : b0 < s.heap.size) {D : va_G} {cy : Nat → ClassId} {A0 AY AM : Nat → Prop} (hbA : ¬ A0 b0) (hC : LC p l s m c b0 D cy A0 AY) (hM : ∀ q, AM q → A0 q) (hYM : ∀ q, AY q → ¬ AM q) {n0 x0 m0 o0 : Nat} (hAf : ∀ q, n0 ≤ q → AY q) {H : Heap} {locs : List Loc} {cells slots : Nat} {Q : State → Prop} {ls : Array Slot} (hS : va_S A0 s.heap H locs) (hI : LI D cy AY AM n0 x0 m0 o0 H) (hc : cells + 3 ≤ room_1.cells) (hs : slots + 21 ≤ room_1.slots) {i : Nat} (hi : i + 4 < L) (hl : lv_has ls 7 (lvB b0 x0 m0 o0 i))
    (kk : ∀ (H1 : Heap) (locs1 : List Loc) (ls1 : Array Slot), va_S A0 s.heap H1 locs1 → LI D cy AY AM n0 x0 m0 o0 H1 → lv_has ls1 7 (lvB b0 x0 m0 o0 i) → W p l e room_1 s m #[Value.ref b0] below meth c H1 locs1 (cells + 3) (slots + 21) Q (F0 m 1400 ls1 [])) :
    W p l e room_1 s m #[Value.ref b0] below meth c H locs cells slots Q (F0 m 1033 ls []) := by
  obtain ⟨⟨hx, hb, hml, hown, hts⟩, hlf, hE, hY⟩ := id hC
  obtain ⟨hn0, ad, adm, mi, ma, ya, yi, pr, fo, rfl, rfl, rfl, hw, hm, hR⟩ := hI
  have hAf2 : ∀ q, H.size ≤ q → AY q := fun q hq => hAf q (Nat.le_trans hn0 hq)
  have hl : lv_has ls 7 [(0, .ref b0), (1, .ref (ad 0)), (2, .ref (adm 0)), (3, .ref (ad 60)), (4, .int (iI (i : Int)))] := hl
  refine lv_aload_n hx hb dL_law_1033 rfl (lv_at hl 1 rfl) ?_
  refine lv_aload_n hx hb dL_law_1034 rfl (lv_at hl 0 rfl) ?_
  refine lv_iload hx hb dL_law_1035 (lv_at hl 4 rfl) ?_
  refine zi_const hx hb dL_law_1037 ?_
  refine zi_add hx hb dL_law_1038 ?_
  refine zsld hx hb hX hbl hbA hS (j := i + 1) (by omega) (by omega) hL dL_law_1039 ?_
  refine lv_aload_n hx hb dL_law_1040 rfl (lv_at hl 3 rfl) ?_
  refine s_freeFrom hC hS hl.1 hc hs hw hR hAf2 (xI xs (i + 1)) (xI_z xs (i + 1)) dL_law_1041 (fun k H1 locs1 hk hG hz1 hk1 hS1 => ?_)
  obtain ⟨ad2, ya2, yi2, pr2, fo2, hx0, ho0, hw1, hG⟩ := hG
  have hm1 := hm.kept hk1 (fun k v hk hB => hYM _ hB (hm.1 k v hk).2.2)
  refine lv_istore (lv' := [(5, .int (iI k)), (0, .ref b0), (1, .ref (ad 0)), (2, .ref (adm 0)), (3, .ref (ad 60)), (4, .int (iI (i : Int)))]) hx hb dL_law_1044 hl (by decide) rfl (fun ls hl => ?_)
  refine lv_aload_n hx hb dL_law_1046 rfl (lv_at hl 3 rfl) ?_
  refine lv_aload_n hx hb dL_law_1047 rfl (lv_at hl 1 rfl) ?_
  refine lv_iload hx hb dL_law_1048 (lv_at hl 5 rfl) ?_
  refine zi_const hx hb dL_law_1050 ?_
  refine zi_add hx hb dL_law_1051 ?_
  refine zsld hx hb hX hbl hbA hS1 (j := i + 1) (by omega) (by omega) hL dL_law_1052 ?_
  refine zcalliN hM (va_runV (As := [.int (iI (xI xs (i + 1)))]) (rest := []) ⟨hx, hb, hml, hown, hts⟩ (c_X2_freeFrom l D cy AM adm mi ma H1 (xI xs (i + 1)) hm1 (xI_z xs (i + 1)) hR.1) (cwV 1 hts gL_law_X2_freeFrom rfl rfl rfl (by decide +kernel) ⟨(Nat.le_of_ble_eq_true rfl), (Nat.le_of_ble_eq_true rfl)⟩) (zPVm hM hE hS1 hm1 (ci := 2) (k0 := 0) rfl mE_0) rfl rfl hl.1 rfl (lv_room (Nat.le_of_ble_eq_true rfl)) dL_law_1053 ⟨hc, hs⟩) hS1 (fun z H2 locs2 hz hq hz2 hk2 hS2 => ?_)
  obtain ⟨c2, mi2, mb, hm2, hmi, hF⟩ : ∃ (c2 : Int) (mi2 : Nat → Int) (mb : Nat → Nat → Int), zW D AM adm (mE cy adm mi2 mb) H2 ∧ mi2 0 = c2 ∧ (QR mi ma (if isP ma (xI xs (i + 1)) then 0 else 1) (fun z => z = (if frS mi ma (xI xs (i + 1)).toNat < 1000 then frS mi ma (xI xs (i + 1)).toNat else -1))) z c2 mi2 mb := by
    obtain ⟨c2, mb, hm2, hsU, hc2, hans⟩ := hq
    exact ⟨c2, _, mb, hm2, up_same _ _ _, rfl, hsU, hc2, hans⟩
  obtain ⟨hek, hR2, hans⟩ := hG _ _ _ _ hF
  have hw2 := hw1.kept hk2 (fun k v hk hB => hYM _ (hw1.1 k v hk).2.2 hB)
  have hI2 : LI D cy AY AM n0 (ad 0) (adm 0) (ad 60) H2 := ⟨by omega, ad2, adm, mi2, mb, ya2, yi2, pr2, fo2, hx0, rfl, ho0, hw2, hm2, hR2⟩
  refine lv_istore (lv' := [(6, .int (iI z)), (5, .int (iI k)), (0, .ref b0), (1, .ref (ad 0)), (2, .ref (adm 0)), (3, .ref (ad 60)), (4, .int (iI (i : Int)))]) hx hb dL_law_1056 hl (by decide) rfl (fun ls hl => ?_)
  refine lv_aload_n hx hb dL_law_1058 rfl (lv_at hl 4 rfl) ?_
  refine zcalliN hM (va_runV (As := []) (rest := []) ⟨hx, hb, hml, hown, hts⟩ (c_X2_thrown l D cy AM adm mi2 mb H2 hm2 (by rw [hmi, hek]; exact hk)) (cwV 0 hts gL_law_X2_thrown rfl rfl rfl (by decide +kernel) ⟨(Nat.le_of_ble_eq_true rfl), (Nat.le_of_ble_eq_true rfl)⟩) (zPVm hM hE hS2 hm2 (ci := 2) (k0 := 0) rfl mE_0) rfl rfl hl.1 rfl (lv_room (Nat.le_of_ble_eq_true rfl)) dL_law_1059 ⟨hc, hs⟩) hS2 (fun z3 H3 locs3 hz3 hq3 hzz3 hk3 hS3 => ?_)
  obtain ⟨hH3, hq3⟩ := hq3
  rw [hH3] at hS3 ⊢
  have hz3k : z3 = k := hq3.trans (hmi.trans hek)
  refine lv_iload hx hb dL_law_1062 (lv_at hl 1 rfl) ?_
  refine zc_eq (tgt := 1069) hx hb dL_law_1064 (by decide) hz3 hk (fun c_1 => ?_) (fun c_1 => absurd hz3k c_1)
  have fin : W p l e room_1 s m #[Value.ref b0] below meth c H2 locs3 (cells + 3 + 0 + 0) (slots + 21 + 0 + 0) Q (F0 m 1086 ls []) := by
    refine lv_goto (tgt := 1400) hx hb dL_law_1086 (by decide) ?_
    exact W.widen (k := cells + 3) (n := slots + 21) (by omega) (by omega) (kk _ _ _ hS3 hI2 (lv_sub hl [2, 3, 4, 5, 6] rfl))
  refine lv_iload hx hb dL_law_1069 (lv_at hl 1 rfl) ?_
  refine zf_ne (tgt := 1086) hx hb dL_law_1071 (by decide) hk (fun _ => fin) (fun c_2 => ?_)
  refine lv_aload_n hx hb dL_law_1074 rfl (lv_at hl 5 rfl) ?_
  refine zi_const hx hb dL_law_1075 ?_
  refine zlald hx hb hE hw2 ho0 dL_law_1076 ?_
  refine lv_iload hx hb dL_law_1077 (lv_at hl 0 rfl) ?_
  refine lv_i2l hx hb dL_law_1079 rfl ?_
  refine W.lcmp hx hb dL_law_1080 ?_
  obtain ⟨r9, h90, h91⟩ := zlcmp (fo2 0) ((iI z).toInt64)
  rw [h91]
  have h92 : r9 = 0 := by
    rcases h90 with ⟨h, -⟩ | ⟨-, h⟩
    · exact h
    · exact absurd (hans c_2) h
  exact zf_eq (tgt := 1086) hx hb dL_law_1081 (by decide) (by rw [h92]; decide) (fun _ => fin) (fun c_3 => absurd h92 c_3)
