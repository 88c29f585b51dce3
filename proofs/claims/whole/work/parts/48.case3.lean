set_option maxHeartbeats 4000000 in
set_option maxRecDepth 100000 in
theorem k_need {p : Program} {l : Launch} {e : Env} {s : State} {m : MethodId} {below : List Frame} {meth : Method} {c : Code} {b0 L : Nat} {xs : Nat → Int32} (hL : L ≤ 2560) (hX : va_X b0 L xs s s.heap) (hbl : b0 < s.heap.size) {D : va_G} {cy : Nat → ClassId} {A0 AY AM : Nat → Prop} (hbA : ¬ A0 b0) (hC : LC p l s m c b0 D cy A0 AY) (hM : ∀ q, AM q → A0 q) (hYM : ∀ q, AY q → ¬ AM q) {n0 x0 m0 o0 : Nat} (hAf : ∀ q, n0 ≤ q → AY q) {H : Heap} {locs : List Loc} {cells slots : Nat} {Q : State → Prop} {ls : Array Slot} (hS : va_S A0 s.heap H locs) (hI : LI D cy AY AM n0 x0 m0 o0 H) (hc : cells + 3 ≤ room_1.cells) (hs : slots + 21 ≤ room_1.slots) {i : Nat} (hi : i + 4 < L) (hl : lv_has ls 7 (lvB b0 x0 m0 o0 i))
    (kk : ∀ (H1 : Heap) (locs1 : List Loc) (ls1 : Array Slot), va_S A0 s.heap H1 locs1 → LI D cy AY AM n0 x0 m0 o0 H1 → lv_has ls1 7 (lvB b0 x0 m0 o0 i) → W p l e room_1 s m #[Value.ref b0] below meth c H1 locs1 (cells + 3) (slots + 21) Q (F0 m 1400 ls1 [])) :
    W p l e room_1 s m #[Value.ref b0] below meth c H locs cells slots Q (F0 m 1089 ls []) := by
  obtain ⟨⟨hx, hb, hml, hown, hts⟩, hlf, hE, hY⟩ := id hC
  obtain ⟨hn0, ad, adm, mi, ma, ya, yi, pr, fo, rfl, rfl, rfl, hw, hm, hR⟩ := hI
  have hAf2 : ∀ q, H.size ≤ q → AY q := fun q hq => hAf q (Nat.le_trans hn0 hq)
  have hl : lv_has ls 7 [(0, .ref b0), (1, .ref (ad 0)), (2, .ref (adm 0)), (3, .ref (ad 60)), (4, .int (iI (i : Int)))] := hl
  refine lv_aload_n hx hb dL_law_1089 rfl (lv_at hl 1 rfl) ?_
  refine lv_aload_n hx hb dL_law_1090 rfl (lv_at hl 0 rfl) ?_
  refine lv_iload hx hb dL_law_1091 (lv_at hl 4 rfl) ?_
  refine zi_const hx hb dL_law_1093 ?_
  refine zi_add hx hb dL_law_1094 ?_
  refine zsld hx hb hX hbl hbA hS (j := i + 1) (by omega) (by omega) hL dL_law_1095 ?_
  refine lv_aload_n hx hb dL_law_1096 rfl (lv_at hl 3 rfl) ?_
  refine s_need hC hS hl.1 hc hs hw hR hAf2 (xI xs (i + 1)) (xI_z xs (i + 1)) dL_law_1097 (fun k H1 locs1 hk hG hz1 hk1 hS1 => ?_)
  obtain ⟨ad2, ya2, yi2, pr2, fo2, hx0, ho0, hw1, hG⟩ := hG
  have hm1 := hm.kept hk1 (fun k v hk hB => hYM _ hB (hm.1 k v hk).2.2)
  refine lv_istore (lv' := [(5, .int (iI k)), (0, .ref b0), (1, .ref (ad 0)), (2, .ref (adm 0)), (3, .ref (ad 60)), (4, .int (iI (i : Int)))]) hx hb dL_law_1100 hl (by decide) rfl (fun ls hl => ?_)
  refine lv_aload_n hx hb dL_law_1102 rfl (lv_at hl 3 rfl) ?_
  refine lv_aload_n hx hb dL_law_1103 rfl (lv_at hl 1 rfl) ?_
  refine lv_iload hx hb dL_law_1104 (lv_at hl 5 rfl) ?_
  refine zi_const hx hb dL_law_1106 ?_
  refine zi_add hx hb dL_law_1107 ?_
  refine zsld hx hb hX hbl hbA hS1 (j := i + 1) (by omega) (by omega) hL dL_law_1108 ?_
  refine zcalliN hM (va_runV (As := [.int (iI (xI xs (i + 1)))]) (rest := []) ⟨hx, hb, hml, hown, hts⟩ (c_X2_need l D cy AM adm mi ma H1 (xI xs (i + 1)) hm1 (xI_z xs (i + 1)) hR.1) (cwV 1 hts gL_law_X2_need rfl rfl rfl (by decide +kernel) ⟨(Nat.le_of_ble_eq_true rfl), (Nat.le_of_ble_eq_true rfl)⟩) (zPVm hM hE hS1 hm1 (ci := 2) (k0 := 0) rfl mE_0) rfl rfl hl.1 rfl (lv_room (Nat.le_of_ble_eq_true rfl)) dL_law_1109 ⟨hc, hs⟩) hS1 (fun z H2 locs2 hz hq hz2 hk2 hS2 => ?_)
  obtain ⟨c2, mi2, mb, hm2, hmi, hF⟩ : ∃ (c2 : Int) (mi2 : Nat → Int) (mb : Nat → Nat → Int), zW D AM adm (mE cy adm mi2 mb) H2 ∧ mi2 0 = c2 ∧ (QR mi ma (if 0 ≤ (xI xs (i + 1)) ∧ (xI xs (i + 1)) < 1000 then 0 else 1) (fun z => z = nS mi ma (xI xs (i + 1)) 10)) z c2 mi2 mb := by
    obtain ⟨c2, mb, hm2, hsU, hc2, hans⟩ := hq
    exact ⟨c2, _, mb, hm2, up_same _ _ _, rfl, hsU, hc2, hans⟩
  obtain ⟨hek, hR2, hans⟩ := hG _ _ _ _ hF
  have hw2 := hw1.kept hk2 (fun k v hk hB => hYM _ (hw1.1 k v hk).2.2 hB)
  have hI2 : LI D cy AY AM n0 (ad 0) (adm 0) (ad 60) H2 := ⟨by omega, ad2, adm, mi2, mb, ya2, yi2, pr2, fo2, hx0, rfl, ho0, hw2, hm2, hR2⟩
  refine lv_istore (lv' := [(6, .int (iI z)), (5, .int (iI k)), (0, .ref b0), (1, .ref (ad 0)), (2, .ref (adm 0)), (3, .ref (ad 60)), (4, .int (iI (i : Int)))]) hx hb dL_law_1112 hl (by decide) rfl (fun ls hl => ?_)
  refine lv_aload_n hx hb dL_law_1114 rfl (lv_at hl 4 rfl) ?_
  refine zcalliN hM (va_runV (As := []) (rest := []) ⟨hx, hb, hml, hown, hts⟩ (c_X2_thrown l D cy AM adm mi2 mb H2 hm2 (by rw [hmi, hek]; exact hk)) (cwV 0 hts gL_law_X2_thrown rfl rfl rfl (by decide +kernel) ⟨(Nat.le_of_ble_eq_true rfl), (Nat.le_of_ble_eq_true rfl)⟩) (zPVm hM hE hS2 hm2 (ci := 2) (k0 := 0) rfl mE_0) rfl rfl hl.1 rfl (lv_room (Nat.le_of_ble_eq_true rfl)) dL_law_1115 ⟨hc, hs⟩) hS2 (fun z3 H3 locs3 hz3 hq3 hzz3 hk3 hS3 => ?_)
  obtain ⟨hH3, hq3⟩ := hq3
  rw [hH3] at hS3 ⊢
  have hz3k : z3 = k := hq3.trans (hmi.trans hek)
  refine lv_iload hx hb dL_law_1118 (lv_at hl 1 rfl) ?_
  refine zc_eq (tgt := 1125) hx hb dL_law_1120 (by decide) hz3 hk (fun c_1 => ?_) (fun c_1 => absurd hz3k c_1)
  have fin : W p l e room_1 s m #[Value.ref b0] below meth c H2 locs3 (cells + 3 + 0 + 0) (slots + 21 + 0 + 0) Q (F0 m 1142 ls []) := by
    refine lv_goto (tgt := 1400) hx hb dL_law_1142 (by decide) ?_
    exact W.widen (k := cells + 3) (n := slots + 21) (by omega) (by omega) (kk _ _ _ hS3 hI2 (lv_sub hl [2, 3, 4, 5, 6] rfl))
  refine lv_iload hx hb dL_law_1125 (lv_at hl 1 rfl) ?_
  refine zf_ne (tgt := 1142) hx hb dL_law_1127 (by decide) hk (fun _ => fin) (fun c_2 => ?_)
  refine lv_aload_n hx hb dL_law_1130 rfl (lv_at hl 5 rfl) ?_
  refine zi_const hx hb dL_law_1131 ?_
  refine zlald hx hb hE hw2 ho0 dL_law_1132 ?_
  refine lv_iload hx hb dL_law_1133 (lv_at hl 0 rfl) ?_
  refine lv_i2l hx hb dL_law_1135 rfl ?_
  refine W.lcmp hx hb dL_law_1136 ?_
  obtain ⟨r9, h90, h91⟩ := zlcmp (fo2 0) ((iI z).toInt64)
  rw [h91]
  have h92 : r9 = 0 := by
    rcases h90 with ⟨h, -⟩ | ⟨-, h⟩
    · exact h
    · exact absurd (hans c_2) h
  exact zf_eq (tgt := 1142) hx hb dL_law_1137 (by decide) (by rw [h92]; decide) (fun _ => fin) (fun c_3 => absurd h92 c_3)

set_option maxHeartbeats 4000000 in
set_option maxRecDepth 100000 in
theorem k_peak {p : Program} {l : Launch} {e : Env} {s : State} {m : MethodId} {below : List Frame} {meth : Method} {c : Code} {b0 L : Nat} {xs : Nat → Int32} (hL : L ≤ 2560) (hX : va_X b0 L xs s s.heap) (hbl : b0 < s.heap.size) {D : va_G} {cy : Nat → ClassId} {A0 AY AM : Nat → Prop} (hbA : ¬ A0 b0) (hC : LC p l s m c b0 D cy A0 AY) (hM : ∀ q, AM q → A0 q) (hYM : ∀ q, AY q → ¬ AM q) {n0 x0 m0 o0 : Nat} (hAf : ∀ q, n0 ≤ q → AY q) {H : Heap} {locs : List Loc} {cells slots : Nat} {Q : State → Prop} {ls : Array Slot} (hS : va_S A0 s.heap H locs) (hI : LI D cy AY AM n0 x0 m0 o0 H) (hc : cells + 3 ≤ room_1.cells) (hs : slots + 21 ≤ room_1.slots) {i : Nat} (hi : i + 4 < L) (hl : lv_has ls 7 (lvB b0 x0 m0 o0 i))
    (kk : ∀ (H1 : Heap) (locs1 : List Loc) (ls1 : Array Slot), va_S A0 s.heap H1 locs1 → LI D cy AY AM n0 x0 m0 o0 H1 → lv_has ls1 7 (lvB b0 x0 m0 o0 i) → W p l e room_1 s m #[Value.ref b0] below meth c H1 locs1 (cells + 3) (slots + 21) Q (F0 m 1400 ls1 [])) :
    W p l e room_1 s m #[Value.ref b0] below meth c H locs cells slots Q (F0 m 1145 ls []) := by
  obtain ⟨⟨hx, hb, hml, hown, hts⟩, hlf, hE, hY⟩ := id hC
  obtain ⟨hn0, ad, adm, mi, ma, ya, yi, pr, fo, rfl, rfl, rfl, hw, hm, hR⟩ := hI
  have hAf2 : ∀ q, H.size ≤ q → AY q := fun q hq => hAf q (Nat.le_trans hn0 hq)
  have hl : lv_has ls 7 [(0, .ref b0), (1, .ref (ad 0)), (2, .ref (adm 0)), (3, .ref (ad 60)), (4, .int (iI (i : Int)))] := hl
  refine lv_aload_n hx hb dL_law_1145 rfl (lv_at hl 1 rfl) ?_
  refine s_peak hC hS hl.1 hc hs hw hR hAf2 dL_law_1146 (fun k H1 locs1 hk hG hz1 hk1 hS1 => ?_)
  obtain ⟨ad2, ya2, yi2, pr2, fo2, hx0, ho0, hw1, hG⟩ := hG
  have hm1 := hm.kept hk1 (fun k v hk hB => hYM _ hB (hm.1 k v hk).2.2)
  refine lv_aload_n hx hb dL_law_1149 rfl (lv_at hl 2 rfl) ?_
  refine zcalliN hM (va_runV (As := []) (rest := [.int (iI k)]) ⟨hx, hb, hml, hown, hts⟩ (c_X2_peak l D cy AM adm mi ma H1  hm1  hR.1) (cwV 0 hts gL_law_X2_peak rfl rfl rfl (by decide +kernel) ⟨(Nat.le_of_ble_eq_true rfl), (Nat.le_of_ble_eq_true rfl)⟩) (zPVm hM hE hS1 hm1 (ci := 2) (k0 := 0) rfl mE_0) rfl rfl hl.1 rfl (lv_room (Nat.le_of_ble_eq_true rfl)) dL_law_1150 ⟨hc, hs⟩) hS1 (fun z H2 locs2 hz hq hz2 hk2 hS2 => ?_)
  obtain ⟨mb, hm2, hsU, hans⟩ := hq
  obtain ⟨hR2, hzk⟩ := hG z 0 _ _ ⟨rfl, hsU, hans⟩
  have hw2 := hw1.kept hk2 (fun k v hk hB => hYM _ (hw1.1 k v hk).2.2 hB)
  have hI2 : LI D cy AY AM n0 (ad 0) (adm 0) (ad 60) H2 := ⟨by omega, ad2, adm, _, _, ya2, yi2, pr2, fo2, hx0, rfl, ho0, hw2, hm2, hR2⟩
  refine zc_eq (tgt := 1400) hx hb dL_law_1153 (by decide) hk hz (fun c_1 => ?_) (fun c_1 => absurd hzk.symm c_1)
  exact W.widen (k := cells + 3) (n := slots + 21) (by omega) (by omega) (kk _ _ _ hS2 hI2 (lv_sub hl [0, 1, 2, 3, 4] rfl))

set_option maxHeartbeats 4000000 in
set_option maxRecDepth 100000 in
theorem k_peakByOverlaps {p : Program} {l : Launch} {e : Env} {s : State} {m : MethodId} {below : List Frame} {meth : Method} {c : Code} {b0 L : Nat} {xs : Nat → Int32} (hL : L ≤ 2560) (hX : va_X b0 L xs s s.heap) (hbl : b0 < s.heap.size) {D : va_G} {cy : Nat → ClassId} {A0 AY AM : Nat → Prop} (hbA : ¬ A0 b0) (hC : LC p l s m c b0 D cy A0 AY) (hM : ∀ q, AM q → A0 q) (hYM : ∀ q, AY q → ¬ AM q) {n0 x0 m0 o0 : Nat} (hAf : ∀ q, n0 ≤ q → AY q) {H : Heap} {locs : List Loc} {cells slots : Nat} {Q : State → Prop} {ls : Array Slot} (hS : va_S A0 s.heap H locs) (hI : LI D cy AY AM n0 x0 m0 o0 H) (hc : cells + 3 ≤ room_1.cells) (hs : slots + 21 ≤ room_1.slots) {i : Nat} (hi : i + 4 < L) (hl : lv_has ls 7 (lvB b0 x0 m0 o0 i))
    (kk : ∀ (H1 : Heap) (locs1 : List Loc) (ls1 : Array Slot), va_S A0 s.heap H1 locs1 → LI D cy AY AM n0 x0 m0 o0 H1 → lv_has ls1 7 (lvB b0 x0 m0 o0 i) → W p l e room_1 s m #[Value.ref b0] below meth c H1 locs1 (cells + 3) (slots + 21) Q (F0 m 1400 ls1 [])) :
    W p l e room_1 s m #[Value.ref b0] below meth c H locs cells slots Q (F0 m 1158 ls []) := by
  obtain ⟨⟨hx, hb, hml, hown, hts⟩, hlf, hE, hY⟩ := id hC
  obtain ⟨hn0, ad, adm, mi, ma, ya, yi, pr, fo, rfl, rfl, rfl, hw, hm, hR⟩ := hI
  have hAf2 : ∀ q, H.size ≤ q → AY q := fun q hq => hAf q (Nat.le_trans hn0 hq)
  have hl : lv_has ls 7 [(0, .ref b0), (1, .ref (ad 0)), (2, .ref (adm 0)), (3, .ref (ad 60)), (4, .int (iI (i : Int)))] := hl
  refine lv_aload_n hx hb dL_law_1158 rfl (lv_at hl 1 rfl) ?_
  refine s_peakByOverlaps hC hS hl.1 hc hs hw hR hAf2 dL_law_1159 (fun k H1 locs1 hk hG hz1 hk1 hS1 => ?_)
  obtain ⟨ad2, ya2, yi2, pr2, fo2, hx0, ho0, hw1, hG⟩ := hG
  have hm1 := hm.kept hk1 (fun k v hk hB => hYM _ hB (hm.1 k v hk).2.2)
  refine lv_aload_n hx hb dL_law_1162 rfl (lv_at hl 2 rfl) ?_
  refine zcalliN hM (va_runV (As := []) (rest := [.int (iI k)]) ⟨hx, hb, hml, hown, hts⟩ (c_X2_peakByOverlaps l D cy AM adm mi ma H1  hm1  hR.1) (cwV 0 hts gL_law_X2_peakByOverlaps rfl rfl rfl (by decide +kernel) ⟨(Nat.le_of_ble_eq_true rfl), (Nat.le_of_ble_eq_true rfl)⟩) (zPVm hM hE hS1 hm1 (ci := 2) (k0 := 0) rfl mE_0) rfl rfl hl.1 rfl (lv_room (Nat.le_of_ble_eq_true rfl)) dL_law_1163 ⟨hc, hs⟩) hS1 (fun z H2 locs2 hz hq hz2 hk2 hS2 => ?_)
  obtain ⟨mb, hm2, hsU, hans⟩ := hq
  obtain ⟨hR2, hzk⟩ := hG z 0 _ _ ⟨rfl, hsU, hans⟩
  have hw2 := hw1.kept hk2 (fun k v hk hB => hYM _ (hw1.1 k v hk).2.2 hB)
  have hI2 : LI D cy AY AM n0 (ad 0) (adm 0) (ad 60) H2 := ⟨by omega, ad2, adm, _, _, ya2, yi2, pr2, fo2, hx0, rfl, ho0, hw2, hm2, hR2⟩
  refine zc_eq (tgt := 1400) hx hb dL_law_1166 (by decide) hk hz (fun c_1 => ?_) (fun c_1 => absurd hzk.symm c_1)
  exact W.widen (k := cells + 3) (n := slots + 21) (by omega) (by omega) (kk _ _ _ hS2 hI2 (lv_sub hl [0, 1, 2, 3, 4] rfl))

set_option maxHeartbeats 4000000 in
set_option maxRecDepth 100000 in
theorem k_firstShort {p : Program} {l : Launch} {e : Env} {s : State} {m : MethodId} {below : List Frame} {meth : Method} {c : Code} {b0 L : Nat} {xs : Nat → Int32} (hL : L ≤ 2560) (hX : va_X b0 L xs s s.heap) (hbl : b0 < s.heap.size) {D : va_G} {cy : Nat → ClassId} {A0 AY AM : Nat → Prop} (hbA : ¬ A0 b0) (hC : LC p l s m c b0 D cy A0 AY) (hM : ∀ q, AM q → A0 q) (hYM : ∀ q, AY q → ¬ AM q) {n0 x0 m0 o0 : Nat} (hAf : ∀ q, n0 ≤ q → AY q) {H : Heap} {locs : List Loc} {cells slots : Nat} {Q : State → Prop} {ls : Array Slot} (hS : va_S A0 s.heap H locs) (hI : LI D cy AY AM n0 x0 m0 o0 H) (hc : cells + 3 ≤ room_1.cells) (hs : slots + 21 ≤ room_1.slots) {i : Nat} (hi : i + 4 < L) (hl : lv_has ls 7 (lvB b0 x0 m0 o0 i))
    (kk : ∀ (H1 : Heap) (locs1 : List Loc) (ls1 : Array Slot), va_S A0 s.heap H1 locs1 → LI D cy AY AM n0 x0 m0 o0 H1 → lv_has ls1 7 (lvB b0 x0 m0 o0 i) → W p l e room_1 s m #[Value.ref b0] below meth c H1 locs1 (cells + 3) (slots + 21) Q (F0 m 1400 ls1 [])) :
    W p l e room_1 s m #[Value.ref b0] below meth c H locs cells slots Q (F0 m 1171 ls []) := by
  obtain ⟨⟨hx, hb, hml, hown, hts⟩, hlf, hE, hY⟩ := id hC
  obtain ⟨hn0, ad, adm, mi, ma, ya, yi, pr, fo, rfl, rfl, rfl, hw, hm, hR⟩ := hI
  have hAf2 : ∀ q, H.size ≤ q → AY q := fun q hq => hAf q (Nat.le_trans hn0 hq)
  have hl : lv_has ls 7 [(0, .ref b0), (1, .ref (ad 0)), (2, .ref (adm 0)), (3, .ref (ad 60)), (4, .int (iI (i : Int)))] := hl
  refine lv_aload_n hx hb dL_law_1171 rfl (lv_at hl 1 rfl) ?_
  refine s_firstShort hC hS hl.1 hc hs hw hR hAf2 dL_law_1172 (fun k H1 locs1 hk hG hz1 hk1 hS1 => ?_)
  obtain ⟨ad2, ya2, yi2, pr2, fo2, hx0, ho0, hw1, hG⟩ := hG
  have hm1 := hm.kept hk1 (fun k v hk hB => hYM _ hB (hm.1 k v hk).2.2)
  refine lv_aload_n hx hb dL_law_1175 rfl (lv_at hl 2 rfl) ?_
  refine zcalliN hM (va_runV (As := []) (rest := [.int (iI k)]) ⟨hx, hb, hml, hown, hts⟩ (c_X2_firstShort l D cy AM adm mi ma H1  hm1  hR.1) (cwV 0 hts gL_law_X2_firstShort rfl rfl rfl (by decide +kernel) ⟨(Nat.le_of_ble_eq_true rfl), (Nat.le_of_ble_eq_true rfl)⟩) (zPVm hM hE hS1 hm1 (ci := 2) (k0 := 0) rfl mE_0) rfl rfl hl.1 rfl (lv_room (Nat.le_of_ble_eq_true rfl)) dL_law_1176 ⟨hc, hs⟩) hS1 (fun z H2 locs2 hz hq hz2 hk2 hS2 => ?_)
  obtain ⟨mb, hm2, hsU, hans⟩ := hq
  obtain ⟨hR2, hzk⟩ := hG z 0 _ _ ⟨rfl, hsU, hans⟩
  have hw2 := hw1.kept hk2 (fun k v hk hB => hYM _ (hw1.1 k v hk).2.2 hB)
  have hI2 : LI D cy AY AM n0 (ad 0) (adm 0) (ad 60) H2 := ⟨by omega, ad2, adm, _, _, ya2, yi2, pr2, fo2, hx0, rfl, ho0, hw2, hm2, hR2⟩
  refine zc_eq (tgt := 1400) hx hb dL_law_1179 (by decide) hk hz (fun c_1 => ?_) (fun c_1 => absurd hzk.symm c_1)
  exact W.widen (k := cells + 3) (n := slots + 21) (by omega) (by omega) (kk _ _ _ hS2 hI2 (lv_sub hl [0, 1, 2, 3, 4] rfl))

set_option maxHeartbeats 4000000 in
set_option maxRecDepth 100000 in
theorem k_earliest {p : Program} {l : Launch} {e : Env} {s : State} {m : MethodId} {below : List Frame} {meth : Method} {c : Code} {b0 L : Nat} {xs : Nat → Int32} (hL : L ≤ 2560) (hX : va_X b0 L xs s s.heap) (hbl : b0 < s.heap.size) {D : va_G} {cy : Nat → ClassId} {A0 AY AM : Nat → Prop} (hbA : ¬ A0 b0) (hC : LC p l s m c b0 D cy A0 AY) (hM : ∀ q, AM q → A0 q) (hYM : ∀ q, AY q → ¬ AM q) {n0 x0 m0 o0 : Nat} (hAf : ∀ q, n0 ≤ q → AY q) {H : Heap} {locs : List Loc} {cells slots : Nat} {Q : State → Prop} {ls : Array Slot} (hS : va_S A0 s.heap H locs) (hI : LI D cy AY AM n0 x0 m0 o0 H) (hc : cells + 3 ≤ room_1.cells) (hs : slots + 21 ≤ room_1.slots) {i : Nat} (hi : i + 4 < L) (hl : lv_has ls 7 (lvB b0 x0 m0 o0 i))
    (kk : ∀ (H1 : Heap) (locs1 : List Loc) (ls1 : Array Slot), va_S A0 s.heap H1 locs1 → LI D cy AY AM n0 x0 m0 o0 H1 → lv_has ls1 7 (lvB b0 x0 m0 o0 i) → W p l e room_1 s m #[Value.ref b0] below meth c H1 locs1 (cells + 3) (slots + 21) Q (F0 m 1400 ls1 [])) :
    W p l e room_1 s m #[Value.ref b0] below meth c H locs cells slots Q (F0 m 1184 ls []) := by
  obtain ⟨⟨hx, hb, hml, hown, hts⟩, hlf, hE, hY⟩ := id hC
  obtain ⟨hn0, ad, adm, mi, ma, ya, yi, pr, fo, rfl, rfl, rfl, hw, hm, hR⟩ := hI
  have hAf2 : ∀ q, H.size ≤ q → AY q := fun q hq => hAf q (Nat.le_trans hn0 hq)
  have hl : lv_has ls 7 [(0, .ref b0), (1, .ref (ad 0)), (2, .ref (adm 0)), (3, .ref (ad 60)), (4, .int (iI (i : Int)))] := hl
  refine lv_aload_n hx hb dL_law_1184 rfl (lv_at hl 1 rfl) ?_
  refine lv_aload_n hx hb dL_law_1185 rfl (lv_at hl 0 rfl) ?_
  refine lv_iload hx hb dL_law_1186 (lv_at hl 4 rfl) ?_
  refine zi_const hx hb dL_law_1188 ?_
  refine zi_add hx hb dL_law_1189 ?_
  refine zsld hx hb hX hbl hbA hS (j := i + 1) (by omega) (by omega) hL dL_law_1190 ?_
  refine lv_aload_n hx hb dL_law_1191 rfl (lv_at hl 0 rfl) ?_
  refine lv_iload hx hb dL_law_1192 (lv_at hl 4 rfl) ?_
  refine zi_const hx hb dL_law_1194 ?_
  refine zi_add hx hb dL_law_1195 ?_
  refine zsld hx hb hX hbl hbA hS (j := i + 2) (by omega) (by omega) hL dL_law_1196 ?_
  refine lv_aload_n hx hb dL_law_1197 rfl (lv_at hl 0 rfl) ?_
  refine lv_iload hx hb dL_law_1198 (lv_at hl 4 rfl) ?_
  refine zi_const hx hb dL_law_1200 ?_
  refine zi_add hx hb dL_law_1201 ?_
  refine zsld hx hb hX hbl hbA hS (j := i + 3) (by omega) (by omega) hL dL_law_1202 ?_
  refine lv_aload_n hx hb dL_law_1203 rfl (lv_at hl 0 rfl) ?_
  refine lv_iload hx hb dL_law_1204 (lv_at hl 4 rfl) ?_
  refine zi_const hx hb dL_law_1206 ?_
  refine zi_add hx hb dL_law_1207 ?_
  refine zsld hx hb hX hbl hbA hS (j := i + 4) (by omega) (by omega) hL dL_law_1208 ?_
  refine lv_aload_n hx hb dL_law_1209 rfl (lv_at hl 3 rfl) ?_
  refine s_earliest hC hS hl.1 hc hs hw hR hAf2 (xI xs (i + 1)) (xI xs (i + 2)) (xI xs (i + 3)) (xI xs (i + 4)) (xI_z xs (i + 1)) (xI_z xs (i + 2)) (xI_z xs (i + 3)) (xI_z xs (i + 4)) dL_law_1210 (fun k H1 locs1 hk hG hz1 hk1 hS1 => ?_)
  obtain ⟨ad2, ya2, yi2, pr2, fo2, hx0, ho0, hw1, hG⟩ := hG
  have hm1 := hm.kept hk1 (fun k v hk hB => hYM _ hB (hm.1 k v hk).2.2)
  refine lv_istore (lv' := [(5, .int (iI k)), (0, .ref b0), (1, .ref (ad 0)), (2, .ref (adm 0)), (3, .ref (ad 60)), (4, .int (iI (i : Int)))]) hx hb dL_law_1213 hl (by decide) rfl (fun ls hl => ?_)
  refine lv_aload_n hx hb dL_law_1215 rfl (lv_at hl 3 rfl) ?_
  refine lv_aload_n hx hb dL_law_1216 rfl (lv_at hl 1 rfl) ?_
  refine lv_iload hx hb dL_law_1217 (lv_at hl 5 rfl) ?_
  refine zi_const hx hb dL_law_1219 ?_
  refine zi_add hx hb dL_law_1220 ?_
  refine zsld hx hb hX hbl hbA hS1 (j := i + 1) (by omega) (by omega) hL dL_law_1221 ?_
  refine lv_aload_n hx hb dL_law_1222 rfl (lv_at hl 1 rfl) ?_
  refine lv_iload hx hb dL_law_1223 (lv_at hl 5 rfl) ?_
  refine zi_const hx hb dL_law_1225 ?_
  refine zi_add hx hb dL_law_1226 ?_
  refine zsld hx hb hX hbl hbA hS1 (j := i + 2) (by omega) (by omega) hL dL_law_1227 ?_
  refine lv_aload_n hx hb dL_law_1228 rfl (lv_at hl 1 rfl) ?_
  refine lv_iload hx hb dL_law_1229 (lv_at hl 5 rfl) ?_
  refine zi_const hx hb dL_law_1231 ?_
  refine zi_add hx hb dL_law_1232 ?_
  refine zsld hx hb hX hbl hbA hS1 (j := i + 3) (by omega) (by omega) hL dL_law_1233 ?_
  refine lv_aload_n hx hb dL_law_1234 rfl (lv_at hl 1 rfl) ?_
  refine lv_iload hx hb dL_law_1235 (lv_at hl 5 rfl) ?_
  refine zi_const hx hb dL_law_1237 ?_
  refine zi_add hx hb dL_law_1238 ?_
  refine zsld hx hb hX hbl hbA hS1 (j := i + 4) (by omega) (by omega) hL dL_law_1239 ?_
  refine zcalliN hM (va_runV (As := [.int (iI (xI xs (i + 1))), .int (iI (xI xs (i + 2))), .int (iI (xI xs (i + 3))), .int (iI (xI xs (i + 4)))]) (rest := []) ⟨hx, hb, hml, hown, hts⟩ (c_X2_earliest l D cy AM adm mi ma H1 (xI xs (i + 1)) (xI xs (i + 2)) (xI xs (i + 3)) (xI xs (i + 4)) hm1 (xI_z xs (i + 1)) (xI_z xs (i + 2)) (xI_z xs (i + 3)) (xI_z xs (i + 4)) hR.1) (cwV 4 hts gL_law_X2_earliest rfl rfl rfl (by decide +kernel) ⟨(Nat.le_of_ble_eq_true rfl), (Nat.le_of_ble_eq_true rfl)⟩) (zPVm hM hE hS1 hm1 (ci := 2) (k0 := 0) rfl mE_0) rfl rfl hl.1 rfl (lv_room (Nat.le_of_ble_eq_true rfl)) dL_law_1240 ⟨hc, hs⟩) hS1 (fun z H2 locs2 hz hq hz2 hk2 hS2 => ?_)
  obtain ⟨c2, mi2, mb, hm2, hmi, hF⟩ : ∃ (c2 : Int) (mi2 : Nat → Int) (mb : Nat → Nat → Int), zW D AM adm (mE cy adm mi2 mb) H2 ∧ mi2 0 = c2 ∧ (QR mi ma (if plOK (xI xs (i + 1)) (xI xs (i + 2)) (xI xs (i + 3)) (xI xs (i + 4)) then 0 else 1) (fun z => earS mi ma (xI xs (i + 1)) (xI xs (i + 2)) (xI xs (i + 3)) (xI xs (i + 4)) z)) z c2 mi2 mb := by
    obtain ⟨c2, mb, hm2, hsU, hc2, hans⟩ := hq
    exact ⟨c2, _, mb, hm2, up_same _ _ _, rfl, hsU, hc2, hans⟩
  obtain ⟨hek, hR2, hans⟩ := hG _ _ _ _ hF
  have hw2 := hw1.kept hk2 (fun k v hk hB => hYM _ (hw1.1 k v hk).2.2 hB)
  have hI2 : LI D cy AY AM n0 (ad 0) (adm 0) (ad 60) H2 := ⟨by omega, ad2, adm, mi2, mb, ya2, yi2, pr2, fo2, hx0, rfl, ho0, hw2, hm2, hR2⟩
  refine lv_istore (lv' := [(6, .int (iI z)), (5, .int (iI k)), (0, .ref b0), (1, .ref (ad 0)), (2, .ref (adm 0)), (3, .ref (ad 60)), (4, .int (iI (i : Int)))]) hx hb dL_law_1243 hl (by decide) rfl (fun ls hl => ?_)
  refine lv_aload_n hx hb dL_law_1245 rfl (lv_at hl 4 rfl) ?_
  refine zcalliN hM (va_runV (As := []) (rest := []) ⟨hx, hb, hml, hown, hts⟩ (c_X2_thrown l D cy AM adm mi2 mb H2 hm2 (by rw [hmi, hek]; exact hk)) (cwV 0 hts gL_law_X2_thrown rfl rfl rfl (by decide +kernel) ⟨(Nat.le_of_ble_eq_true rfl), (Nat.le_of_ble_eq_true rfl)⟩) (zPVm hM hE hS2 hm2 (ci := 2) (k0 := 0) rfl mE_0) rfl rfl hl.1 rfl (lv_room (Nat.le_of_ble_eq_true rfl)) dL_law_1246 ⟨hc, hs⟩) hS2 (fun z3 H3 locs3 hz3 hq3 hzz3 hk3 hS3 => ?_)
  obtain ⟨hH3, hq3⟩ := hq3
  rw [hH3] at hS3 ⊢
  have hz3k : z3 = k := hq3.trans (hmi.trans hek)
  refine lv_iload hx hb dL_law_1249 (lv_at hl 1 rfl) ?_
  refine zc_eq (tgt := 1256) hx hb dL_law_1251 (by decide) hz3 hk (fun c_1 => ?_) (fun c_1 => absurd hz3k c_1)
  have fin : W p l e room_1 s m #[Value.ref b0] below meth c H2 locs3 (cells + 3 + 0 + 0) (slots + 21 + 0 + 0) Q (F0 m 1273 ls []) := by
    refine lv_goto (tgt := 1400) hx hb dL_law_1273 (by decide) ?_
    exact W.widen (k := cells + 3) (n := slots + 21) (by omega) (by omega) (kk _ _ _ hS3 hI2 (lv_sub hl [2, 3, 4, 5, 6] rfl))
  refine lv_iload hx hb dL_law_1256 (lv_at hl 1 rfl) ?_
  refine zf_ne (tgt := 1273) hx hb dL_law_1258 (by decide) hk (fun _ => fin) (fun c_2 => ?_)
  refine lv_aload_n hx hb dL_law_1261 rfl (lv_at hl 5 rfl) ?_
  refine zi_const hx hb dL_law_1262 ?_
  refine zlald hx hb hE hw2 ho0 dL_law_1263 ?_
  refine lv_iload hx hb dL_law_1264 (lv_at hl 0 rfl) ?_
  refine lv_i2l hx hb dL_law_1266 rfl ?_
  refine W.lcmp hx hb dL_law_1267 ?_
  obtain ⟨r9, h90, h91⟩ := zlcmp (fo2 0) ((iI z).toInt64)
  rw [h91]
  have h92 : r9 = 0 := by
    rcases h90 with ⟨h, -⟩ | ⟨-, h⟩
    · exact h
    · exact absurd (hans c_2) h
  exact zf_eq (tgt := 1273) hx hb dL_law_1268 (by decide) (by rw [h92]; decide) (fun _ => fin) (fun c_3 => absurd h92 c_3)

set_option maxHeartbeats 4000000 in
set_option maxRecDepth 100000 in
theorem k_panelsOf {p : Program} {l : Launch} {e : Env} {s : State} {m : MethodId} {below : List Frame} {meth : Method} {c : Code} {b0 L : Nat} {xs : Nat → Int32} (hL : L ≤ 2560) (hX : va_X b0 L xs s s.heap) (hbl : b0 < s.heap.size) {D : va_G} {cy : Nat → ClassId} {A0 AY AM : Nat → Prop} (hbA : ¬ A0 b0) (hC : LC p l s m c b0 D cy A0 AY) (hM : ∀ q, AM q → A0 q) (hYM : ∀ q, AY q → ¬ AM q) {n0 x0 m0 o0 : Nat} (hAf : ∀ q, n0 ≤ q → AY q) {H : Heap} {locs : List Loc} {cells slots : Nat} {Q : State → Prop} {ls : Array Slot} (hS : va_S A0 s.heap H locs) (hI : LI D cy AY AM n0 x0 m0 o0 H) (hc : cells + 3 ≤ room_1.cells) (hs : slots + 21 ≤ room_1.slots) {i : Nat} (hi : i + 4 < L) (hl : lv_has ls 7 (lvB b0 x0 m0 o0 i))
    (kk : ∀ (H1 : Heap) (locs1 : List Loc) (ls1 : Array Slot), va_S A0 s.heap H1 locs1 → LI D cy AY AM n0 x0 m0 o0 H1 → lv_has ls1 7 (lvB b0 x0 m0 o0 i) → W p l e room_1 s m #[Value.ref b0] below meth c H1 locs1 (cells + 3) (slots + 21) Q (F0 m 1400 ls1 [])) :
    W p l e room_1 s m #[Value.ref b0] below meth c H locs cells slots Q (F0 m 1276 ls []) := by
  obtain ⟨⟨hx, hb, hml, hown, hts⟩, hlf, hE, hY⟩ := id hC
  obtain ⟨hn0, ad, adm, mi, ma, ya, yi, pr, fo, rfl, rfl, rfl, hw, hm, hR⟩ := hI
  have hAf2 : ∀ q, H.size ≤ q → AY q := fun q hq => hAf q (Nat.le_trans hn0 hq)
  have hl : lv_has ls 7 [(0, .ref b0), (1, .ref (ad 0)), (2, .ref (adm 0)), (3, .ref (ad 60)), (4, .int (iI (i : Int)))] := hl
  refine lv_aload_n hx hb dL_law_1276 rfl (lv_at hl 1 rfl) ?_
  refine lv_aload_n hx hb dL_law_1277 rfl (lv_at hl 0 rfl) ?_
  refine lv_iload hx hb dL_law_1278 (lv_at hl 4 rfl) ?_
  refine zi_const hx hb dL_law_1280 ?_
  refine zi_add hx hb dL_law_1281 ?_
  refine zsld hx hb hX hbl hbA hS (j := i + 1) (by omega) (by omega) hL dL_law_1282 ?_
  refine lv_aload_n hx hb dL_law_1283 rfl (lv_at hl 3 rfl) ?_
  refine s_panelsOf hC hS hl.1 hc hs hw hR hAf2 (xI xs (i + 1)) (xI_z xs (i + 1)) dL_law_1284 (fun k H1 locs1 hk hG hz1 hk1 hS1 => ?_)
  obtain ⟨ad2, ya2, yi2, pr2, fo2, hx0, ho0, hw1, hG⟩ := hG
  have hm1 := hm.kept hk1 (fun k v hk hB => hYM _ hB (hm.1 k v hk).2.2)
  refine lv_istore (lv' := [(5, .int (iI k)), (0, .ref b0), (1, .ref (ad 0)), (2, .ref (adm 0)), (3, .ref (ad 60)), (4, .int (iI (i : Int)))]) hx hb dL_law_1287 hl (by decide) rfl (fun ls hl => ?_)
  refine lv_aload_n hx hb dL_law_1289 rfl (lv_at hl 3 rfl) ?_
  refine lv_aload_n hx hb dL_law_1290 rfl (lv_at hl 1 rfl) ?_
  refine lv_iload hx hb dL_law_1291 (lv_at hl 5 rfl) ?_
  refine zi_const hx hb dL_law_1293 ?_
  refine zi_add hx hb dL_law_1294 ?_
  refine zsld hx hb hX hbl hbA hS1 (j := i + 1) (by omega) (by omega) hL dL_law_1295 ?_
  refine zcalliN hM (va_runV (As := [.int (iI (xI xs (i + 1)))]) (rest := []) ⟨hx, hb, hml, hown, hts⟩ (c_X2_panelsOf l D cy AM adm mi ma H1 (xI xs (i + 1)) hm1 (xI_z xs (i + 1)) hR.1) (cwV 1 hts gL_law_X2_panelsOf rfl rfl rfl (by decide +kernel) ⟨(Nat.le_of_ble_eq_true rfl), (Nat.le_of_ble_eq_true rfl)⟩) (zPVm hM hE hS1 hm1 (ci := 2) (k0 := 0) rfl mE_0) rfl rfl hl.1 rfl (lv_room (Nat.le_of_ble_eq_true rfl)) dL_law_1296 ⟨hc, hs⟩) hS1 (fun z H2 locs2 hz hq hz2 hk2 hS2 => ?_)
  obtain ⟨c2, mi2, mb, hm2, hmi, hF⟩ : ∃ (c2 : Int) (mi2 : Nat → Int) (mb : Nat → Nat → Int), zW D AM adm (mE cy adm mi2 mb) H2 ∧ mi2 0 = c2 ∧ (QR mi ma (if isP ma (xI xs (i + 1)) then 0 else 1) (fun z => z = sl (fun j => bI (FM mi ma 10000 (xI xs (i + 1)).toNat j)) 60)) z c2 mi2 mb := by
    obtain ⟨c2, mb, hm2, hsU, hc2, hans⟩ := hq
    exact ⟨c2, _, mb, hm2, up_same _ _ _, rfl, hsU, hc2, hans⟩
  obtain ⟨hek, hR2, hans⟩ := hG _ _ _ _ hF
  have hw2 := hw1.kept hk2 (fun k v hk hB => hYM _ (hw1.1 k v hk).2.2 hB)
  have hI2 : LI D cy AY AM n0 (ad 0) (adm 0) (ad 60) H2 := ⟨by omega, ad2, adm, mi2, mb, ya2, yi2, pr2, fo2, hx0, rfl, ho0, hw2, hm2, hR2⟩
  refine lv_istore (lv' := [(6, .int (iI z)), (5, .int (iI k)), (0, .ref b0), (1, .ref (ad 0)), (2, .ref (adm 0)), (3, .ref (ad 60)), (4, .int (iI (i : Int)))]) hx hb dL_law_1299 hl (by decide) rfl (fun ls hl => ?_)
  refine lv_aload_n hx hb dL_law_1301 rfl (lv_at hl 4 rfl) ?_
  refine zcalliN hM (va_runV (As := []) (rest := []) ⟨hx, hb, hml, hown, hts⟩ (c_X2_thrown l D cy AM adm mi2 mb H2 hm2 (by rw [hmi, hek]; exact hk)) (cwV 0 hts gL_law_X2_thrown rfl rfl rfl (by decide +kernel) ⟨(Nat.le_of_ble_eq_true rfl), (Nat.le_of_ble_eq_true rfl)⟩) (zPVm hM hE hS2 hm2 (ci := 2) (k0 := 0) rfl mE_0) rfl rfl hl.1 rfl (lv_room (Nat.le_of_ble_eq_true rfl)) dL_law_1302 ⟨hc, hs⟩) hS2 (fun z3 H3 locs3 hz3 hq3 hzz3 hk3 hS3 => ?_)
  obtain ⟨hH3, hq3⟩ := hq3
  rw [hH3] at hS3 ⊢
  have hz3k : z3 = k := hq3.trans (hmi.trans hek)
  refine lv_iload hx hb dL_law_1305 (lv_at hl 1 rfl) ?_
  refine zc_eq (tgt := 1312) hx hb dL_law_1307 (by decide) hz3 hk (fun c_1 => ?_) (fun c_1 => absurd hz3k c_1)
  have fin : W p l e room_1 s m #[Value.ref b0] below meth c H2 locs3 (cells + 3 + 0 + 0) (slots + 21 + 0 + 0) Q (F0 m 1329 ls []) := by
    refine lv_goto (tgt := 1400) hx hb dL_law_1329 (by decide) ?_
    exact W.widen (k := cells + 3) (n := slots + 21) (by omega) (by omega) (kk _ _ _ hS3 hI2 (lv_sub hl [2, 3, 4, 5, 6] rfl))
  refine lv_iload hx hb dL_law_1312 (lv_at hl 1 rfl) ?_
  refine zf_ne (tgt := 1329) hx hb dL_law_1314 (by decide) hk (fun _ => fin) (fun c_2 => ?_)
  refine lv_aload_n hx hb dL_law_1317 rfl (lv_at hl 5 rfl) ?_
  refine zi_const hx hb dL_law_1318 ?_
  refine zlald hx hb hE hw2 ho0 dL_law_1319 ?_
  refine lv_iload hx hb dL_law_1320 (lv_at hl 0 rfl) ?_
  refine lv_i2l hx hb dL_law_1322 rfl ?_
  refine W.lcmp hx hb dL_law_1323 ?_
  obtain ⟨r9, h90, h91⟩ := zlcmp (fo2 0) ((iI z).toInt64)
  rw [h91]
  have h92 : r9 = 0 := by
    rcases h90 with ⟨h, -⟩ | ⟨-, h⟩
    · exact h
    · exact absurd (hans c_2) h
  exact zf_eq (tgt := 1329) hx hb dL_law_1324 (by decide) (by rw [h92]; decide) (fun _ => fin) (fun c_3 => absurd h92 c_3)

set_option maxHeartbeats 4000000 in
set_option maxRecDepth 100000 in
theorem k_pourOf {p : Program} {l : Launch} {e : Env} {s : State} {m : MethodId} {below : List Frame} {meth : Method} {c : Code} {b0 L : Nat} {xs : Nat → Int32} (hL : L ≤ 2560) (hX : va_X b0 L xs s s.heap) (hbl : b0 < s.heap.size) {D : va_G} {cy : Nat → ClassId} {A0 AY AM : Nat → Prop} (hbA : ¬ A0 b0) (hC : LC p l s m c b0 D cy A0 AY) (hM : ∀ q, AM q → A0 q) (hYM : ∀ q, AY q → ¬ AM q) {n0 x0 m0 o0 : Nat} (hAf : ∀ q, n0 ≤ q → AY q) {H : Heap} {locs : List Loc} {cells slots : Nat} {Q : State → Prop} {ls : Array Slot} (hS : va_S A0 s.heap H locs) (hI : LI D cy AY AM n0 x0 m0 o0 H) (hc : cells + 3 ≤ room_1.cells) (hs : slots + 21 ≤ room_1.slots) {i : Nat} (hi : i + 4 < L) (hl : lv_has ls 7 (lvB b0 x0 m0 o0 i))
    (kk : ∀ (H1 : Heap) (locs1 : List Loc) (ls1 : Array Slot), va_S A0 s.heap H1 locs1 → LI D cy AY AM n0 x0 m0 o0 H1 → lv_has ls1 7 (lvB b0 x0 m0 o0 i) → W p l e room_1 s m #[Value.ref b0] below meth c H1 locs1 (cells + 3) (slots + 21) Q (F0 m 1400 ls1 [])) :
    W p l e room_1 s m #[Value.ref b0] below meth c H locs cells slots Q (F0 m 1332 ls []) := by
  obtain ⟨⟨hx, hb, hml, hown, hts⟩, hlf, hE, hY⟩ := id hC
  obtain ⟨hn0, ad, adm, mi, ma, ya, yi, pr, fo, rfl, rfl, rfl, hw, hm, hR⟩ := hI
  have hAf2 : ∀ q, H.size ≤ q → AY q := fun q hq => hAf q (Nat.le_trans hn0 hq)
  have hl : lv_has ls 7 [(0, .ref b0), (1, .ref (ad 0)), (2, .ref (adm 0)), (3, .ref (ad 60)), (4, .int (iI (i : Int)))] := hl
  refine lv_aload_n hx hb dL_law_1332 rfl (lv_at hl 1 rfl) ?_
  refine lv_aload_n hx hb dL_law_1333 rfl (lv_at hl 0 rfl) ?_
  refine lv_iload hx hb dL_law_1334 (lv_at hl 4 rfl) ?_
  refine zi_const hx hb dL_law_1336 ?_
  refine zi_add hx hb dL_law_1337 ?_
  refine zsld hx hb hX hbl hbA hS (j := i + 1) (by omega) (by omega) hL dL_law_1338 ?_
  refine lv_aload_n hx hb dL_law_1339 rfl (lv_at hl 0 rfl) ?_
  refine lv_iload hx hb dL_law_1340 (lv_at hl 4 rfl) ?_
  refine zi_const hx hb dL_law_1342 ?_
  refine zi_add hx hb dL_law_1343 ?_
  refine zsld hx hb hX hbl hbA hS (j := i + 2) (by omega) (by omega) hL dL_law_1344 ?_
  refine lv_aload_n hx hb dL_law_1345 rfl (lv_at hl 3 rfl) ?_
  refine s_pourOf hC hS hl.1 hc hs hw hR hAf2 (xI xs (i + 1)) (xI xs (i + 2)) (xI_z xs (i + 1)) (xI_z xs (i + 2)) dL_law_1346 (fun k H1 locs1 hk hG hz1 hk1 hS1 => ?_)
  obtain ⟨ad2, ya2, yi2, pr2, fo2, hx0, ho0, hw1, hG⟩ := hG
  have hm1 := hm.kept hk1 (fun k v hk hB => hYM _ hB (hm.1 k v hk).2.2)
  refine lv_istore (lv' := [(5, .int (iI k)), (0, .ref b0), (1, .ref (ad 0)), (2, .ref (adm 0)), (3, .ref (ad 60)), (4, .int (iI (i : Int)))]) hx hb dL_law_1349 hl (by decide) rfl (fun ls hl => ?_)
  refine lv_aload_n hx hb dL_law_1351 rfl (lv_at hl 3 rfl) ?_
  refine lv_aload_n hx hb dL_law_1352 rfl (lv_at hl 1 rfl) ?_
  refine lv_iload hx hb dL_law_1353 (lv_at hl 5 rfl) ?_
  refine zi_const hx hb dL_law_1355 ?_
  refine zi_add hx hb dL_law_1356 ?_
  refine zsld hx hb hX hbl hbA hS1 (j := i + 1) (by omega) (by omega) hL dL_law_1357 ?_
  refine lv_aload_n hx hb dL_law_1358 rfl (lv_at hl 1 rfl) ?_
  refine lv_iload hx hb dL_law_1359 (lv_at hl 5 rfl) ?_
  refine zi_const hx hb dL_law_1361 ?_
  refine zi_add hx hb dL_law_1362 ?_
  refine zsld hx hb hX hbl hbA hS1 (j := i + 2) (by omega) (by omega) hL dL_law_1363 ?_
  refine zcalliN hM (va_runV (As := [.int (iI (xI xs (i + 1))), .int (iI (xI xs (i + 2)))]) (rest := []) ⟨hx, hb, hml, hown, hts⟩ (c_X2_pourOf l D cy AM adm mi ma H1 (xI xs (i + 1)) (xI xs (i + 2)) hm1 (xI_z xs (i + 1)) (xI_z xs (i + 2)) hR.1) (cwV 2 hts gL_law_X2_pourOf rfl rfl rfl (by decide +kernel) ⟨(Nat.le_of_ble_eq_true rfl), (Nat.le_of_ble_eq_true rfl)⟩) (zPVm hM hE hS1 hm1 (ci := 2) (k0 := 0) rfl mE_0) rfl rfl hl.1 rfl (lv_room (Nat.le_of_ble_eq_true rfl)) dL_law_1364 ⟨hc, hs⟩) hS1 (fun z H2 locs2 hz hq hz2 hk2 hS2 => ?_)
  obtain ⟨c2, mi2, mb, hm2, hmi, hF⟩ : ∃ (c2 : Int) (mi2 : Nat → Int) (mb : Nat → Nat → Int), zW D AM adm (mE cy adm mi2 mb) H2 ∧ mi2 0 = c2 ∧ (QR mi ma (if (0 ≤ (xI xs (i + 1)) ∧ (xI xs (i + 1)) < mi 2) ∧ 0 ≤ (xI xs (i + 2)) ∧ (xI xs (i + 2)) < 1000 then 0 else 1) (fun z => ∃ k : Nat, (xI xs (i + 1)) = k ∧ ((z = -1 ∧ ∀ q, q < 10 → ¬ (FM mi ma 10000 q k = true ∧ bsM mi ma q (xI xs (i + 2)) = true)) ∨ (0 ≤ z ∧ z < 10 ∧ (FM mi ma 10000 z.toNat k = true ∧ bsM mi ma z.toNat (xI xs (i + 2)) = true))))) z c2 mi2 mb := by
    obtain ⟨c2, mb, hm2, hsU, hc2, hans⟩ := hq
    exact ⟨c2, _, mb, hm2, up_same _ _ _, rfl, hsU, hc2, hans⟩
  obtain ⟨hek, hR2, hans⟩ := hG _ _ _ _ hF
  have hw2 := hw1.kept hk2 (fun k v hk hB => hYM _ (hw1.1 k v hk).2.2 hB)
  have hI2 : LI D cy AY AM n0 (ad 0) (adm 0) (ad 60) H2 := ⟨by omega, ad2, adm, mi2, mb, ya2, yi2, pr2, fo2, hx0, rfl, ho0, hw2, hm2, hR2⟩
  refine lv_istore (lv' := [(6, .int (iI z)), (5, .int (iI k)), (0, .ref b0), (1, .ref (ad 0)), (2, .ref (adm 0)), (3, .ref (ad 60)), (4, .int (iI (i : Int)))]) hx hb dL_law_1367 hl (by decide) rfl (fun ls hl => ?_)
  refine lv_aload_n hx hb dL_law_1369 rfl (lv_at hl 4 rfl) ?_
  refine zcalliN hM (va_runV (As := []) (rest := []) ⟨hx, hb, hml, hown, hts⟩ (c_X2_thrown l D cy AM adm mi2 mb H2 hm2 (by rw [hmi, hek]; exact hk)) (cwV 0 hts gL_law_X2_thrown rfl rfl rfl (by decide +kernel) ⟨(Nat.le_of_ble_eq_true rfl), (Nat.le_of_ble_eq_true rfl)⟩) (zPVm hM hE hS2 hm2 (ci := 2) (k0 := 0) rfl mE_0) rfl rfl hl.1 rfl (lv_room (Nat.le_of_ble_eq_true rfl)) dL_law_1370 ⟨hc, hs⟩) hS2 (fun z3 H3 locs3 hz3 hq3 hzz3 hk3 hS3 => ?_)
  obtain ⟨hH3, hq3⟩ := hq3
  rw [hH3] at hS3 ⊢
  have hz3k : z3 = k := hq3.trans (hmi.trans hek)
  refine lv_iload hx hb dL_law_1373 (lv_at hl 1 rfl) ?_
  refine zc_eq (tgt := 1380) hx hb dL_law_1375 (by decide) hz3 hk (fun c_1 => ?_) (fun c_1 => absurd hz3k c_1)
  have fin : W p l e room_1 s m #[Value.ref b0] below meth c H2 locs3 (cells + 3 + 0 + 0) (slots + 21 + 0 + 0) Q (F0 m 1397 ls []) := by
    refine lv_goto (tgt := 1400) hx hb dL_law_1397 (by decide) ?_
    exact W.widen (k := cells + 3) (n := slots + 21) (by omega) (by omega) (kk _ _ _ hS3 hI2 (lv_sub hl [2, 3, 4, 5, 6] rfl))
  refine lv_iload hx hb dL_law_1380 (lv_at hl 1 rfl) ?_
  refine zf_ne (tgt := 1397) hx hb dL_law_1382 (by decide) hk (fun _ => fin) (fun c_2 => ?_)
  refine lv_aload_n hx hb dL_law_1385 rfl (lv_at hl 5 rfl) ?_
  refine zi_const hx hb dL_law_1386 ?_
  refine zlald hx hb hE hw2 ho0 dL_law_1387 ?_
  refine lv_iload hx hb dL_law_1388 (lv_at hl 0 rfl) ?_
  refine lv_i2l hx hb dL_law_1390 rfl ?_
  refine W.lcmp hx hb dL_law_1391 ?_
  obtain ⟨r9, h90, h91⟩ := zlcmp (fo2 0) ((iI z).toInt64)
  rw [h91]
  have h92 : r9 = 0 := by
    rcases h90 with ⟨h, -⟩ | ⟨-, h⟩
    · exact h
    · exact absurd (hans c_2) h
  exact zf_eq (tgt := 1397) hx hb dL_law_1392 (by decide) (by rw [h92]; decide) (fun _ => fin) (fun c_3 => absurd h92 c_3)
